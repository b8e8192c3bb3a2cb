/-! THE CALLS OF THE LAW -/
theorem ok_calls {N : Nat} (hN : 8589934592 ≤ N) : Ok_all N (BK N) (BK N) := ⟨
  fun V B a b => o3_feed hN B a b,
  fun V B => o3_wipe B,
  fun V B => by
    obtain ⟨x, V1, V2, e1, e2, b, s⟩ := o3_load hN B
    exact ⟨x, x, V1, V2, e1, e2, b, s⟩,
  fun V B a => o3_font hN B a,
  fun V B a b => o3_table hN B a b,
  fun V B a => o3_glyphOf hN B a,
  fun V B a b => o3_glyph hN B a b,
  fun V B a b => al_kern hN B a b,
  fun V B a => o3_size hN B a,
  fun V B a => o3_make hN B a,
  fun V B a b => o3_point hN B a b,
  fun V B a => o3_told hN B a,
  fun V B a b => o3_held hN B a b,
  fun V B a b => o3_isIn hN B a b,
  fun V B a b => o3_canvas hN B a b,
  fun V B a b => o3_draw hN B a b,
  fun V B a b => o3_pixel hN B a b,
  fun V B a => o3_type hN B a,
  fun V B a b => o3_line hN B a b⟩
