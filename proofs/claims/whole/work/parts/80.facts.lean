theorem facts_all : FactsOf RelW := sorry
