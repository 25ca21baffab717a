section Facts
theorem facts_all : FactsOf RelW :=
  ⟨m_word, m_attr, m_fetch, m_index, m_triangles, m_corner, m_place, m_vary, m_view, m_faces, fun _ h => ⟨(m_make2 h).1, (m_make2 h).2.1⟩, fun h => by rw [h.1]; exact ⟨by decide, by decide⟩, fun h => (m_make2 h).2.2, m_side, fun h => h.2.2.2.2.2.2.1, m_side_b, m_got, m_got_b, m_area, m_area_b⟩
end Facts
