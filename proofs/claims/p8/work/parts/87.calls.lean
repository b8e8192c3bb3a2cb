/-! THE CALLS OF THE LAW -/
theorem ok_calls {N : Nat} (hN : 8589934592 ≤ N) : Ok_all N (BG N) (BG N) := ⟨
  fun V B a b => o4_feed hN B a b,
  fun V B => o4_wipe B,
  fun V B => by
    obtain ⟨x, V1, V2, e1, e2, b, s⟩ := o4_load hN B
    exact ⟨x, x, V1, V2, e1, e2, b, s⟩,
  fun V B a => o4_font hN B a,
  fun V B a b => o4_table hN B a b,
  fun V B a => o4_glyphOf hN B a,
  fun V B a b => al_glyph hN B a b,
  fun V B a b => o4_kern hN B a b,
  fun V B a => o4_size hN B a,
  fun V B a => o4_make hN B a,
  fun V B a b => o4_point hN B a b,
  fun V B a => o4_told hN B a,
  fun V B a b => o4_held hN B a b,
  fun V B a b => o4_isIn hN B a b,
  fun V B a b => o4_canvas hN B a b,
  fun V B a b => o4_draw hN B a b,
  fun V B a b => o4_pixel hN B a b,
  fun V B a => o4_type hN B a,
  fun V B a b => o4_line hN B a b⟩
