/-! RedMarksLaw.law([I)Z -/
def mL_law : ra_M := (x, code, 4, ret)
def tVL_law (N : Nat) : Nat → List Value → ra_H → Option ra_H := (ra_c1 1 (fun av h => match av with
  | [.ref z0] => fX11_init N z0 h
  | _ => none) (ra_c1 207 (fun av h => match av with
  | [.ref z0] => fX12_init N z0 h
  | _ => none) ra_c0))
theorem tVL_law_ok (N : Nat) : ra_cok 95 ra_oV (tVL_law N) := (ra_c1_ok (by
  intro av h a e
  split at e
  · exact fX11_init_co N _ _ _ e 95 (by omega)
  · cases e) (ra_c1_ok (by
  intro av h a e
  split at e
  · exact fX12_init_co N _ _ _ e 95 (by omega)
  · cases e) ra_c0_ok))
def tIL_law (N : Nat) : Nat → List Value → ra_H → Option (Int32 × ra_H) := (ra_c1 13 (fun av h => match av with
  | [.ref z0, .int z1, .int z2, .int z3, .int z4, .int z5] => fX11_book N z0 z1 z2 z3 z4 z5 h
  | _ => none) (ra_c1 25 (fun av h => match av with
  | [.ref z0, .int z1, .int z2, .int z3] => fX11_fact N z0 z1 z2 z3 h
  | _ => none) (ra_c1 30 (fun av h => match av with
  | [.ref z0, .int z1, .int z2, .int z3] => fX11_mark N z0 z1 z2 z3 h
  | _ => none) (ra_c1 31 (fun av h => match av with
  | [.ref z0, .int z1, .int z2] => fX11_of N z0 z1 z2 h
  | _ => none) (ra_c1 32 (fun av h => match av with
  | [.ref z0, .int z1, .int z2] => fX11_bay N z0 z1 z2 h
  | _ => none) (ra_c1 33 (fun av h => match av with
  | [.ref z0, .int z1, .int z2, .int z3, .int z4] => fX11_shelf N z0 z1 z2 z3 z4 h
  | _ => none) (ra_c1 35 (fun av h => match av with
  | [.ref z0, .int z1, .int z2, .int z3, .int z4, .int z5] => fX11_feed N z0 z1 z2 z3 z4 z5 h
  | _ => none) (ra_c1 37 (fun av h => match av with
  | [.ref z0, .int z1] => fX11_end N z0 z1 h
  | _ => none) (ra_c1 38 (fun av h => match av with
  | [.ref z0] => fX11_row N z0 h
  | _ => none) (ra_c1 40 (fun av h => match av with
  | [.ref z0] => fX11_rebound N z0 h
  | _ => none) (ra_c1 41 (fun av h => match av with
  | [.ref z0] => fX11_text N z0 h
  | _ => none) (ra_c1 80 (fun av h => match av with
  | [.ref z0] => fX11_fault N z0 h
  | _ => none) (ra_c1 81 (fun av h => match av with
  | [.ref z0, .int z1, .int z2, .int z3] => fX11_seat N z0 z1 z2 z3 h
  | _ => none) (ra_c1 91 (fun av h => match av with
  | [.ref z0, .int z1, .int z2, .int z3] => fX11_stand N z0 z1 z2 z3 h
  | _ => none) (ra_c1 96 (fun av h => match av with
  | [.ref z0, .int z1] => fX11_best N z0 z1 h
  | _ => none) (ra_c1 104 (fun av h => match av with
  | [.ref z0, .int z1, .int z2, .int z3] => fX11_keep N z0 z1 z2 z3 h
  | _ => none) (ra_c1 106 (fun av h => match av with
  | [.ref z0, .int z1] => fX11_how N z0 z1 h
  | _ => none) (ra_c1 107 (fun av h => match av with
  | [.ref z0, .int z1, .int z2, .int z3] => fX11_on N z0 z1 z2 z3 h
  | _ => none) (ra_c1 111 (fun av h => match av with
  | [.ref z0, .int z1, .int z2] => fX11_free N z0 z1 z2 h
  | _ => none) (ra_c1 113 (fun av h => match av with
  | [.ref z0, .int z1, .int z2, .int z3, .int z4] => fX11_gap N z0 z1 z2 z3 z4 h
  | _ => none) (ra_c1 117 (fun av h => match av with
  | [.ref z0, .int z1, .int z2, .int z3, .int z4] => fX11_could N z0 z1 z2 z3 z4 h
  | _ => none) (ra_c1 145 (fun av h => match av with
  | [.ref z0, .int z1, .int z2, .int z3, .int z4, .int z5] => fX11_line N z0 z1 z2 z3 z4 z5 h
  | _ => none) (ra_c1 146 (fun av h => match av with
  | [.ref z0, .int z1, .int z2] => fX11_list N z0 z1 z2 h
  | _ => none) (ra_c1 147 (fun av h => match av with
  | [.ref z0, .int z1, .int z2] => fX11_fights N z0 z1 z2 h
  | _ => none) (ra_c1 149 (fun av h => match av with
  | [.ref z0, .int z1, .int z2, .int z3] => fX11_wanting N z0 z1 z2 z3 h
  | _ => none) (ra_c1 153 (fun av h => match av with
  | [.ref z0, .int z1] => fX11_runs N z0 z1 h
  | _ => none) (ra_c1 157 (fun av h => match av with
  | [.ref z0, .int z1, .int z2, .int z3] => fX11_binder N z0 z1 z2 z3 h
  | _ => none) (ra_c1 159 (fun av h => match av with
  | [.ref z0, .int z1] => fX11_bound N z0 z1 h
  | _ => none) (ra_c1 160 (fun av h => match av with
  | [.ref z0, .int z1, .int z2] => fX11_nearest N z0 z1 z2 h
  | _ => none) (ra_c1 164 (fun av h => match av with
  | [.ref z0, .int z1, .int z2] => fX11_close N z0 z1 z2 h
  | _ => none) (ra_c1 166 (fun av h => match av with
  | [.ref z0, .int z1, .int z2] => fX11_agree N z0 z1 z2 h
  | _ => none) (ra_c1 167 (fun av h => match av with
  | [.ref z0, .int z1] => fX11_match N z0 z1 h
  | _ => none) (ra_c1 168 (fun av h => match av with
  | [.ref z0, .int z1, .int z2] => fX11_matched N z0 z1 z2 h
  | _ => none) (ra_c1 169 (fun av h => match av with
  | [.ref z0, .int z1, .int z2, .int z3] => fX11_ours N z0 z1 z2 z3 h
  | _ => none) (ra_c1 171 (fun av h => match av with
  | [.ref z0, .int z1, .int z2, .int z3] => fX11_untrue N z0 z1 z2 z3 h
  | _ => none) (ra_c1 172 (fun av h => match av with
  | [.ref z0, .int z1, .int z2] => fX11_twice N z0 z1 z2 h
  | _ => none) (ra_c1 174 (fun av h => match av with
  | [.ref z0, .int z1] => fX11_stack N z0 z1 h
  | _ => none) (ra_c1 176 (fun av h => match av with
  | [.ref z0] => fX11_clear N z0 h
  | _ => none) (ra_c1 177 (fun av h => match av with
  | [.ref z0, .int z1] => fX11_beside N z0 z1 h
  | _ => none) (ra_c1 184 (fun av h => match av with
  | [.ref z0, .int z1, .int z2, .int z3, .int z4] => fX11_house N z0 z1 z2 z3 z4 h
  | _ => none) (ra_c1 185 (fun av h => match av with
  | [.ref z0, .int z1] => fX11_expect N z0 z1 h
  | _ => none) (ra_c1 187 (fun av h => match av with
  | [.ref z0] => fX11_next N z0 h
  | _ => none) (ra_c1 188 (fun av h => match av with
  | [.ref z0, .int z1] => fX11_left N z0 z1 h
  | _ => none) (ra_c1 190 (fun av h => match av with
  | [.ref z0, .int z1, .int z2, .int z3] => fX11_grew N z0 z1 z2 z3 h
  | _ => none) (ra_c1 191 (fun av h => match av with
  | [.ref z0, .int z1, .int z2] => fX11_scatter N z0 z1 z2 h
  | _ => none) (ra_c1 194 (fun av h => match av with
  | [.ref z0, .int z1] => fX11_went N z0 z1 h
  | _ => none) (ra_c1 196 (fun av h => match av with
  | [.ref z0, .int z1, .int z2] => fX11_together N z0 z1 z2 h
  | _ => none) (ra_c1 199 (fun av h => match av with
  | [.ref z0, .int z1] => fX11_image N z0 z1 h
  | _ => none) (ra_c1 202 (fun av h => match av with
  | [.ref z0, .int z1] => fX11_back N z0 z1 h
  | _ => none) (ra_c1 204 (fun av h => match av with
  | [.ref z0, .int z1] => fX11_count N z0 z1 h
  | _ => none) (ra_c1 206 (fun av h => match av with
  | [.ref z0] => fX11_status N z0 h
  | _ => none) (ra_c1 208 (fun av h => match av with
  | [.ref z0, .int z1] => fX12_image N z0 z1 h
  | _ => none) (ra_c1 211 (fun av h => match av with
  | [.ref z0, .int z1] => fX12_back N z0 z1 h
  | _ => none) (ra_c1 212 (fun av h => match av with
  | [.ref z0, .int z1, .int z2, .int z3, .int z4, .int z5] => fX12_book N z0 z1 z2 z3 z4 z5 h
  | _ => none) (ra_c1 217 (fun av h => match av with
  | [.ref z0, .int z1, .int z2, .int z3] => fX12_fact N z0 z1 z2 z3 h
  | _ => none) (ra_c1 220 (fun av h => match av with
  | [.ref z0, .int z1, .int z2, .int z3] => fX12_mark N z0 z1 z2 z3 h
  | _ => none) (ra_c1 221 (fun av h => match av with
  | [.ref z0, .int z1, .int z2] => fX12_of N z0 z1 z2 h
  | _ => none) (ra_c1 222 (fun av h => match av with
  | [.ref z0, .int z1, .int z2] => fX12_bay N z0 z1 z2 h
  | _ => none) (ra_c1 223 (fun av h => match av with
  | [.ref z0, .int z1, .int z2, .int z3, .int z4] => fX12_shelf N z0 z1 z2 z3 z4 h
  | _ => none) (ra_c1 225 (fun av h => match av with
  | [.ref z0] => fX12_row N z0 h
  | _ => none) (ra_c1 226 (fun av h => match av with
  | [.ref z0] => fX12_rebound N z0 h
  | _ => none) (ra_c1 227 (fun av h => match av with
  | [.ref z0, .int z1, .int z2, .int z3, .int z4, .int z5] => fX12_feed N z0 z1 z2 z3 z4 z5 h
  | _ => none) (ra_c1 229 (fun av h => match av with
  | [.ref z0, .int z1] => fX12_end N z0 z1 h
  | _ => none) (ra_c1 230 (fun av h => match av with
  | [.ref z0] => fX12_fault N z0 h
  | _ => none) (ra_c1 231 (fun av h => match av with
  | [.ref z0] => fX12_text N z0 h
  | _ => none) (ra_c1 255 (fun av h => match av with
  | [.ref z0, .int z1, .int z2, .int z3] => fX12_seat N z0 z1 z2 z3 h
  | _ => none) (ra_c1 263 (fun av h => match av with
  | [.ref z0, .int z1, .int z2, .int z3] => fX12_stand N z0 z1 z2 z3 h
  | _ => none) (ra_c1 266 (fun av h => match av with
  | [.ref z0, .int z1] => fX12_best N z0 z1 h
  | _ => none) (ra_c1 267 (fun av h => match av with
  | [.ref z0, .int z1, .int z2, .int z3] => fX12_keep N z0 z1 z2 z3 h
  | _ => none) (ra_c1 268 (fun av h => match av with
  | [.ref z0, .int z1] => fX12_how N z0 z1 h
  | _ => none) (ra_c1 270 (fun av h => match av with
  | [.ref z0, .int z1, .int z2, .int z3] => fX12_on N z0 z1 z2 z3 h
  | _ => none) (ra_c1 272 (fun av h => match av with
  | [.ref z0, .int z1, .int z2] => fX12_free N z0 z1 z2 h
  | _ => none) (ra_c1 274 (fun av h => match av with
  | [.ref z0, .int z1, .int z2, .int z3, .int z4] => fX12_gap N z0 z1 z2 z3 z4 h
  | _ => none) (ra_c1 275 (fun av h => match av with
  | [.ref z0, .int z1, .int z2] => fX12_nearest N z0 z1 z2 h
  | _ => none) (ra_c1 276 (fun av h => match av with
  | [.ref z0, .int z1, .int z2] => fX12_close N z0 z1 z2 h
  | _ => none) (ra_c1 278 (fun av h => match av with
  | [.ref z0, .int z1, .int z2, .int z3, .int z4, .int z5] => fX12_line N z0 z1 z2 z3 z4 z5 h
  | _ => none) (ra_c1 279 (fun av h => match av with
  | [.ref z0, .int z1, .int z2] => fX12_list N z0 z1 z2 h
  | _ => none) (ra_c1 281 (fun av h => match av with
  | [.ref z0, .int z1, .int z2] => fX12_fights N z0 z1 z2 h
  | _ => none) (ra_c1 283 (fun av h => match av with
  | [.ref z0, .int z1, .int z2] => fX12_agree N z0 z1 z2 h
  | _ => none) (ra_c1 285 (fun av h => match av with
  | [.ref z0, .int z1] => fX12_match N z0 z1 h
  | _ => none) (ra_c1 293 (fun av h => match av with
  | [.ref z0, .int z1, .int z2] => fX12_matched N z0 z1 z2 h
  | _ => none) (ra_c1 294 (fun av h => match av with
  | [.ref z0, .int z1, .int z2, .int z3, .int z4] => fX12_could N z0 z1 z2 z3 z4 h
  | _ => none) (ra_c1 295 (fun av h => match av with
  | [.ref z0, .int z1, .int z2, .int z3] => fX12_wanting N z0 z1 z2 z3 h
  | _ => none) (ra_c1 296 (fun av h => match av with
  | [.ref z0, .int z1] => fX12_runs N z0 z1 h
  | _ => none) (ra_c1 297 (fun av h => match av with
  | [.ref z0, .int z1, .int z2, .int z3] => fX12_binder N z0 z1 z2 z3 h
  | _ => none) (ra_c1 299 (fun av h => match av with
  | [.ref z0, .int z1] => fX12_bound N z0 z1 h
  | _ => none) (ra_c1 300 (fun av h => match av with
  | [.ref z0, .int z1, .int z2, .int z3] => fX12_ours N z0 z1 z2 z3 h
  | _ => none) (ra_c1 302 (fun av h => match av with
  | [.ref z0, .int z1, .int z2, .int z3] => fX12_untrue N z0 z1 z2 z3 h
  | _ => none) (ra_c1 303 (fun av h => match av with
  | [.ref z0, .int z1, .int z2] => fX12_twice N z0 z1 z2 h
  | _ => none) (ra_c1 304 (fun av h => match av with
  | [.ref z0, .int z1] => fX12_stack N z0 z1 h
  | _ => none) (ra_c1 305 (fun av h => match av with
  | [.ref z0] => fX12_clear N z0 h
  | _ => none) (ra_c1 306 (fun av h => match av with
  | [.ref z0, .int z1] => fX12_beside N z0 z1 h
  | _ => none) (ra_c1 309 (fun av h => match av with
  | [.ref z0, .int z1, .int z2, .int z3, .int z4] => fX12_house N z0 z1 z2 z3 z4 h
  | _ => none) (ra_c1 310 (fun av h => match av with
  | [.ref z0, .int z1] => fX12_expect N z0 z1 h
  | _ => none) (ra_c1 312 (fun av h => match av with
  | [.ref z0] => fX12_next N z0 h
  | _ => none) (ra_c1 313 (fun av h => match av with
  | [.ref z0, .int z1] => fX12_left N z0 z1 h
  | _ => none) (ra_c1 315 (fun av h => match av with
  | [.ref z0, .int z1, .int z2, .int z3] => fX12_grew N z0 z1 z2 z3 h
  | _ => none) (ra_c1 316 (fun av h => match av with
  | [.ref z0, .int z1, .int z2] => fX12_scatter N z0 z1 z2 h
  | _ => none) (ra_c1 318 (fun av h => match av with
  | [.ref z0, .int z1] => fX12_went N z0 z1 h
  | _ => none) (ra_c1 319 (fun av h => match av with
  | [.ref z0, .int z1, .int z2] => fX12_together N z0 z1 z2 h
  | _ => none) (ra_c1 321 (fun av h => match av with
  | [.ref z0, .int z1] => fX12_count N z0 z1 h
  | _ => none) (ra_c1 322 (fun av h => match av with
  | [.ref z0] => fX12_status N z0 h
  | _ => none) ra_c0))))))))))))))))))))))))))))))))))))))))))))))))))))))))))))))))))))))))))))))))))))))))))))))))))))))
theorem tIL_law_ok (N : Nat) : ra_cok 95 ra_oI (tIL_law N) := (ra_c1_ok (by
  intro av h a e
  split at e
  · exact fX11_book_co N _ _ _ _ _ _ _ _ e 95 (by omega)
  · cases e) (ra_c1_ok (by
  intro av h a e
  split at e
  · exact fX11_fact_co N _ _ _ _ _ _ e 95 (by omega)
  · cases e) (ra_c1_ok (by
  intro av h a e
  split at e
  · exact fX11_mark_co N _ _ _ _ _ _ e 95 (by omega)
  · cases e) (ra_c1_ok (by
  intro av h a e
  split at e
  · exact fX11_of_co N _ _ _ _ _ e 95 (by omega)
  · cases e) (ra_c1_ok (by
  intro av h a e
  split at e
  · exact fX11_bay_co N _ _ _ _ _ e 95 (by omega)
  · cases e) (ra_c1_ok (by
  intro av h a e
  split at e
  · exact fX11_shelf_co N _ _ _ _ _ _ _ e 95 (by omega)
  · cases e) (ra_c1_ok (by
  intro av h a e
  split at e
  · exact fX11_feed_co N _ _ _ _ _ _ _ _ e 95 (by omega)
  · cases e) (ra_c1_ok (by
  intro av h a e
  split at e
  · exact fX11_end_co N _ _ _ _ e 95 (by omega)
  · cases e) (ra_c1_ok (by
  intro av h a e
  split at e
  · exact fX11_row_co N _ _ _ e 95 (by omega)
  · cases e) (ra_c1_ok (by
  intro av h a e
  split at e
  · exact fX11_rebound_co N _ _ _ e 95 (by omega)
  · cases e) (ra_c1_ok (by
  intro av h a e
  split at e
  · exact fX11_text_co N _ _ _ e 95 (by omega)
  · cases e) (ra_c1_ok (by
  intro av h a e
  split at e
  · exact fX11_fault_co N _ _ _ e 95 (by omega)
  · cases e) (ra_c1_ok (by
  intro av h a e
  split at e
  · exact fX11_seat_co N _ _ _ _ _ _ e 95 (by omega)
  · cases e) (ra_c1_ok (by
  intro av h a e
  split at e
  · exact fX11_stand_co N _ _ _ _ _ _ e 95 (by omega)
  · cases e) (ra_c1_ok (by
  intro av h a e
  split at e
  · exact fX11_best_co N _ _ _ _ e 95 (by omega)
  · cases e) (ra_c1_ok (by
  intro av h a e
  split at e
  · exact fX11_keep_co N _ _ _ _ _ _ e 95 (by omega)
  · cases e) (ra_c1_ok (by
  intro av h a e
  split at e
  · exact fX11_how_co N _ _ _ _ e 95 (by omega)
  · cases e) (ra_c1_ok (by
  intro av h a e
  split at e
  · exact fX11_on_co N _ _ _ _ _ _ e 95 (by omega)
  · cases e) (ra_c1_ok (by
  intro av h a e
  split at e
  · exact fX11_free_co N _ _ _ _ _ e 95 (by omega)
  · cases e) (ra_c1_ok (by
  intro av h a e
  split at e
  · exact fX11_gap_co N _ _ _ _ _ _ _ e 95 (by omega)
  · cases e) (ra_c1_ok (by
  intro av h a e
  split at e
  · exact fX11_could_co N _ _ _ _ _ _ _ e 95 (by omega)
  · cases e) (ra_c1_ok (by
  intro av h a e
  split at e
  · exact fX11_line_co N _ _ _ _ _ _ _ _ e 95 (by omega)
  · cases e) (ra_c1_ok (by
  intro av h a e
  split at e
  · exact fX11_list_co N _ _ _ _ _ e 95 (by omega)
  · cases e) (ra_c1_ok (by
  intro av h a e
  split at e
  · exact fX11_fights_co N _ _ _ _ _ e 95 (by omega)
  · cases e) (ra_c1_ok (by
  intro av h a e
  split at e
  · exact fX11_wanting_co N _ _ _ _ _ _ e 95 (by omega)
  · cases e) (ra_c1_ok (by
  intro av h a e
  split at e
  · exact fX11_runs_co N _ _ _ _ e 95 (by omega)
  · cases e) (ra_c1_ok (by
  intro av h a e
  split at e
  · exact fX11_binder_co N _ _ _ _ _ _ e 95 (by omega)
  · cases e) (ra_c1_ok (by
  intro av h a e
  split at e
  · exact fX11_bound_co N _ _ _ _ e 95 (by omega)
  · cases e) (ra_c1_ok (by
  intro av h a e
  split at e
  · exact fX11_nearest_co N _ _ _ _ _ e 95 (by omega)
  · cases e) (ra_c1_ok (by
  intro av h a e
  split at e
  · exact fX11_close_co N _ _ _ _ _ e 95 (by omega)
  · cases e) (ra_c1_ok (by
  intro av h a e
  split at e
  · exact fX11_agree_co N _ _ _ _ _ e 95 (by omega)
  · cases e) (ra_c1_ok (by
  intro av h a e
  split at e
  · exact fX11_match_co N _ _ _ _ e 95 (by omega)
  · cases e) (ra_c1_ok (by
  intro av h a e
  split at e
  · exact fX11_matched_co N _ _ _ _ _ e 95 (by omega)
  · cases e) (ra_c1_ok (by
  intro av h a e
  split at e
  · exact fX11_ours_co N _ _ _ _ _ _ e 95 (by omega)
  · cases e) (ra_c1_ok (by
  intro av h a e
  split at e
  · exact fX11_untrue_co N _ _ _ _ _ _ e 95 (by omega)
  · cases e) (ra_c1_ok (by
  intro av h a e
  split at e
  · exact fX11_twice_co N _ _ _ _ _ e 95 (by omega)
  · cases e) (ra_c1_ok (by
  intro av h a e
  split at e
  · exact fX11_stack_co N _ _ _ _ e 95 (by omega)
  · cases e) (ra_c1_ok (by
  intro av h a e
  split at e
  · exact fX11_clear_co N _ _ _ e 95 (by omega)
  · cases e) (ra_c1_ok (by
  intro av h a e
  split at e
  · exact fX11_beside_co N _ _ _ _ e 95 (by omega)
  · cases e) (ra_c1_ok (by
  intro av h a e
  split at e
  · exact fX11_house_co N _ _ _ _ _ _ _ e 95 (by omega)
  · cases e) (ra_c1_ok (by
  intro av h a e
  split at e
  · exact fX11_expect_co N _ _ _ _ e 95 (by omega)
  · cases e) (ra_c1_ok (by
  intro av h a e
  split at e
  · exact fX11_next_co N _ _ _ e 95 (by omega)
  · cases e) (ra_c1_ok (by
  intro av h a e
  split at e
  · exact fX11_left_co N _ _ _ _ e 95 (by omega)
  · cases e) (ra_c1_ok (by
  intro av h a e
  split at e
  · exact fX11_grew_co N _ _ _ _ _ _ e 95 (by omega)
  · cases e) (ra_c1_ok (by
  intro av h a e
  split at e
  · exact fX11_scatter_co N _ _ _ _ _ e 95 (by omega)
  · cases e) (ra_c1_ok (by
  intro av h a e
  split at e
  · exact fX11_went_co N _ _ _ _ e 95 (by omega)
  · cases e) (ra_c1_ok (by
  intro av h a e
  split at e
  · exact fX11_together_co N _ _ _ _ _ e 95 (by omega)
  · cases e) (ra_c1_ok (by
  intro av h a e
  split at e
  · exact fX11_image_co N _ _ _ _ e 95 (by omega)
  · cases e) (ra_c1_ok (by
  intro av h a e
  split at e
  · exact fX11_back_co N _ _ _ _ e 95 (by omega)
  · cases e) (ra_c1_ok (by
  intro av h a e
  split at e
  · exact fX11_count_co N _ _ _ _ e 95 (by omega)
  · cases e) (ra_c1_ok (by
  intro av h a e
  split at e
  · exact fX11_status_co N _ _ _ e 95 (by omega)
  · cases e) (ra_c1_ok (by
  intro av h a e
  split at e
  · exact fX12_image_co N _ _ _ _ e 95 (by omega)
  · cases e) (ra_c1_ok (by
  intro av h a e
  split at e
  · exact fX12_back_co N _ _ _ _ e 95 (by omega)
  · cases e) (ra_c1_ok (by
  intro av h a e
  split at e
  · exact fX12_book_co N _ _ _ _ _ _ _ _ e 95 (by omega)
  · cases e) (ra_c1_ok (by
  intro av h a e
  split at e
  · exact fX12_fact_co N _ _ _ _ _ _ e 95 (by omega)
  · cases e) (ra_c1_ok (by
  intro av h a e
  split at e
  · exact fX12_mark_co N _ _ _ _ _ _ e 95 (by omega)
  · cases e) (ra_c1_ok (by
  intro av h a e
  split at e
  · exact fX12_of_co N _ _ _ _ _ e 95 (by omega)
  · cases e) (ra_c1_ok (by
  intro av h a e
  split at e
  · exact fX12_bay_co N _ _ _ _ _ e 95 (by omega)
  · cases e) (ra_c1_ok (by
  intro av h a e
  split at e
  · exact fX12_shelf_co N _ _ _ _ _ _ _ e 95 (by omega)
  · cases e) (ra_c1_ok (by
  intro av h a e
  split at e
  · exact fX12_row_co N _ _ _ e 95 (by omega)
  · cases e) (ra_c1_ok (by
  intro av h a e
  split at e
  · exact fX12_rebound_co N _ _ _ e 95 (by omega)
  · cases e) (ra_c1_ok (by
  intro av h a e
  split at e
  · exact fX12_feed_co N _ _ _ _ _ _ _ _ e 95 (by omega)
  · cases e) (ra_c1_ok (by
  intro av h a e
  split at e
  · exact fX12_end_co N _ _ _ _ e 95 (by omega)
  · cases e) (ra_c1_ok (by
  intro av h a e
  split at e
  · exact fX12_fault_co N _ _ _ e 95 (by omega)
  · cases e) (ra_c1_ok (by
  intro av h a e
  split at e
  · exact fX12_text_co N _ _ _ e 95 (by omega)
  · cases e) (ra_c1_ok (by
  intro av h a e
  split at e
  · exact fX12_seat_co N _ _ _ _ _ _ e 95 (by omega)
  · cases e) (ra_c1_ok (by
  intro av h a e
  split at e
  · exact fX12_stand_co N _ _ _ _ _ _ e 95 (by omega)
  · cases e) (ra_c1_ok (by
  intro av h a e
  split at e
  · exact fX12_best_co N _ _ _ _ e 95 (by omega)
  · cases e) (ra_c1_ok (by
  intro av h a e
  split at e
  · exact fX12_keep_co N _ _ _ _ _ _ e 95 (by omega)
  · cases e) (ra_c1_ok (by
  intro av h a e
  split at e
  · exact fX12_how_co N _ _ _ _ e 95 (by omega)
  · cases e) (ra_c1_ok (by
  intro av h a e
  split at e
  · exact fX12_on_co N _ _ _ _ _ _ e 95 (by omega)
  · cases e) (ra_c1_ok (by
  intro av h a e
  split at e
  · exact fX12_free_co N _ _ _ _ _ e 95 (by omega)
  · cases e) (ra_c1_ok (by
  intro av h a e
  split at e
  · exact fX12_gap_co N _ _ _ _ _ _ _ e 95 (by omega)
  · cases e) (ra_c1_ok (by
  intro av h a e
  split at e
  · exact fX12_nearest_co N _ _ _ _ _ e 95 (by omega)
  · cases e) (ra_c1_ok (by
  intro av h a e
  split at e
  · exact fX12_close_co N _ _ _ _ _ e 95 (by omega)
  · cases e) (ra_c1_ok (by
  intro av h a e
  split at e
  · exact fX12_line_co N _ _ _ _ _ _ _ _ e 95 (by omega)
  · cases e) (ra_c1_ok (by
  intro av h a e
  split at e
  · exact fX12_list_co N _ _ _ _ _ e 95 (by omega)
  · cases e) (ra_c1_ok (by
  intro av h a e
  split at e
  · exact fX12_fights_co N _ _ _ _ _ e 95 (by omega)
  · cases e) (ra_c1_ok (by
  intro av h a e
  split at e
  · exact fX12_agree_co N _ _ _ _ _ e 95 (by omega)
  · cases e) (ra_c1_ok (by
  intro av h a e
  split at e
  · exact fX12_match_co N _ _ _ _ e 95 (by omega)
  · cases e) (ra_c1_ok (by
  intro av h a e
  split at e
  · exact fX12_matched_co N _ _ _ _ _ e 95 (by omega)
  · cases e) (ra_c1_ok (by
  intro av h a e
  split at e
  · exact fX12_could_co N _ _ _ _ _ _ _ e 95 (by omega)
  · cases e) (ra_c1_ok (by
  intro av h a e
  split at e
  · exact fX12_wanting_co N _ _ _ _ _ _ e 95 (by omega)
  · cases e) (ra_c1_ok (by
  intro av h a e
  split at e
  · exact fX12_runs_co N _ _ _ _ e 95 (by omega)
  · cases e) (ra_c1_ok (by
  intro av h a e
  split at e
  · exact fX12_binder_co N _ _ _ _ _ _ e 95 (by omega)
  · cases e) (ra_c1_ok (by
  intro av h a e
  split at e
  · exact fX12_bound_co N _ _ _ _ e 95 (by omega)
  · cases e) (ra_c1_ok (by
  intro av h a e
  split at e
  · exact fX12_ours_co N _ _ _ _ _ _ e 95 (by omega)
  · cases e) (ra_c1_ok (by
  intro av h a e
  split at e
  · exact fX12_untrue_co N _ _ _ _ _ _ e 95 (by omega)
  · cases e) (ra_c1_ok (by
  intro av h a e
  split at e
  · exact fX12_twice_co N _ _ _ _ _ e 95 (by omega)
  · cases e) (ra_c1_ok (by
  intro av h a e
  split at e
  · exact fX12_stack_co N _ _ _ _ e 95 (by omega)
  · cases e) (ra_c1_ok (by
  intro av h a e
  split at e
  · exact fX12_clear_co N _ _ _ e 95 (by omega)
  · cases e) (ra_c1_ok (by
  intro av h a e
  split at e
  · exact fX12_beside_co N _ _ _ _ e 95 (by omega)
  · cases e) (ra_c1_ok (by
  intro av h a e
  split at e
  · exact fX12_house_co N _ _ _ _ _ _ _ e 95 (by omega)
  · cases e) (ra_c1_ok (by
  intro av h a e
  split at e
  · exact fX12_expect_co N _ _ _ _ e 95 (by omega)
  · cases e) (ra_c1_ok (by
  intro av h a e
  split at e
  · exact fX12_next_co N _ _ _ e 95 (by omega)
  · cases e) (ra_c1_ok (by
  intro av h a e
  split at e
  · exact fX12_left_co N _ _ _ _ e 95 (by omega)
  · cases e) (ra_c1_ok (by
  intro av h a e
  split at e
  · exact fX12_grew_co N _ _ _ _ _ _ e 95 (by omega)
  · cases e) (ra_c1_ok (by
  intro av h a e
  split at e
  · exact fX12_scatter_co N _ _ _ _ _ e 95 (by omega)
  · cases e) (ra_c1_ok (by
  intro av h a e
  split at e
  · exact fX12_went_co N _ _ _ _ e 95 (by omega)
  · cases e) (ra_c1_ok (by
  intro av h a e
  split at e
  · exact fX12_together_co N _ _ _ _ _ e 95 (by omega)
  · cases e) (ra_c1_ok (by
  intro av h a e
  split at e
  · exact fX12_count_co N _ _ _ _ e 95 (by omega)
  · cases e) (ra_c1_ok (by
  intro av h a e
  split at e
  · exact fX12_status_co N _ _ _ e 95 (by omega)
  · cases e) ra_c0_ok))))))))))))))))))))))))))))))))))))))))))))))))))))))))))))))))))))))))))))))))))))))))))))))))))))))
def lL_law_1935 : List ra_I := [(1935, .iinc 3 (6), 3, 3, 0, 0, (6), 0, []),
  (1938, .goto (-1920), 3, 18, 0, 0, 0, 0, [])]
set_option maxRecDepth 100000 in
theorem lL_law_1935_ck : lL_law_1935.all (ra_ck mL_law 13) = true := by decide +kernel
def nL_law_1935 (N : Nat) (c18 : UInt32 → Nat → Nat → Int32 → ra_H → Option (Int32 × ra_H)) (a0 : UInt32) (a1 : Nat) (a2 : Nat) (a3 : Int32) (h : ra_H) : Option (Int32 × ra_H) :=
  let y1 := a3 + (6 : Int32)
  c18 a0 a1 a2 y1 h
def kL_law_1935 (N : Nat) (c18 : UInt32 → Nat → Nat → Int32 → ra_H → Option (Int32 × ra_H)) : Nat → List (Option Value) → List Value → ra_H → Option (Int32 × ra_H) := (ra_k1 18 (fun L S h => match L, S with
  | [some (.float a0), some (.ref a1), some (.ref a2), some (.int a3)], [] => c18 a0 a1 a2 a3 h
  | _, _ => none) ra_k0)
theorem kL_law_1935_ok (N : Nat) (c18 : UInt32 → Nat → Nat → Int32 → ra_H → Option (Int32 × ra_H)) (hc18 : ∀ a0 a1 a2 a3 h r, c18 a0 a1 a2 a3 h = some r → ra_Ru 95 mL_law 18 [some (.float a0), some (.ref a1), some (.ref a2), some (.int a3)] [] h (ra_oI r)) : ra_kok 95 mL_law ra_oI (kL_law_1935 N c18) := (ra_k1_ok (by
  intro L S h a e
  split at e
  · exact ra_Ru.weak (hc18 _ _ _ _ _ _ e) ⟨rfl, ⟨rfl, ⟨rfl, ⟨rfl, trivial⟩⟩⟩⟩
  · cases e) ra_k0_ok)
set_option maxRecDepth 100000 in
theorem nL_law_1935_ok (N : Nat) (c18 : UInt32 → Nat → Nat → Int32 → ra_H → Option (Int32 × ra_H)) (hc18 : ∀ a0 a1 a2 a3 h r, c18 a0 a1 a2 a3 h = some r → ra_Ru 95 mL_law 18 [some (.float a0), some (.ref a1), some (.ref a2), some (.int a3)] [] h (ra_oI r)) (a0 : UInt32) (a1 : Nat) (a2 : Nat) (a3 : Int32) (h : ra_H) (r : (Int32 × ra_H)) (e : nL_law_1935 N c18 a0 a1 a2 a3 h = some r) : ra_Ru 95 mL_law 1935 [some (.float a0), some (.ref a1), some (.ref a2), some (.int a3)] [] h (ra_oI r) :=
  ra_sound (by omega) rfl ra_rI_ok (kL_law_1935_ok N c18 hc18) (fun m av h h1 e => (tVL_law_ok N) m av h h1 e) (fun m av h x h1 e => (tIL_law_ok N) m av h (x, h1) e) (fun m av h x h1 e => (ra_c0_ok (ro := ra_oJ)) m av h (x, h1) e) (fun m av h x h1 e => (ra_c0_ok (ro := ra_oR)) m av h (x, h1) e) (fun m av h x h1 e => (ra_c0_ok (ro := ra_oN)) m av h (x, h1) e) (fun m av h x h1 e => (ra_c0_ok (ro := ra_oF)) m av h (x, h1) e) 3 lL_law_1935 _ _ _ _ lL_law_1935_ck (show ra_run ra_rI (kL_law_1935 N c18) (tVL_law N) (tIL_law N) ra_c0 ra_c0 ra_c0 ra_c0 3 lL_law_1935 [some (.float a0), some (.ref a1), some (.ref a2), some (.int a3)] [] h = some r from e) _ _ rfl
def lL_law_252 : List ra_I := [(252, .aload_n 1, 1, 1, 0, 0, 0, 0, []),
  (253, .aload_n 0, 1, 0, 0, 0, 0, 0, []),
  (254, .iload_n 3, 1, 3, 0, 0, 0, 0, []),
  (255, .iconst (1), 1, 0, 0, 0, (1), 0, []),
  (256, .iadd, 1, 0, 0, 0, 0, 0, []),
  (257, .iaload, 1, 0, 0, 0, 0, 0, []),
  (258, .aload_n 0, 1, 0, 0, 0, 0, 0, []),
  (259, .iload_n 3, 1, 3, 0, 0, 0, 0, []),
  (260, .iconst (2), 1, 0, 0, 0, (2), 0, []),
  (261, .iadd, 1, 0, 0, 0, 0, 0, []),
  (262, .iaload, 1, 0, 0, 0, 0, 0, []),
  (263, .aload_n 0, 1, 0, 0, 0, 0, 0, []),
  (264, .iload_n 3, 1, 3, 0, 0, 0, 0, []),
  (265, .iconst (3), 1, 0, 0, 0, (3), 0, []),
  (266, .iadd, 1, 0, 0, 0, 0, 0, []),
  (267, .iaload, 1, 0, 0, 0, 0, 0, []),
  (268, .aload_n 0, 1, 0, 0, 0, 0, 0, []),
  (269, .iload_n 3, 1, 3, 0, 0, 0, 0, []),
  (270, .iconst (4), 1, 0, 0, 0, (4), 0, []),
  (271, .iadd, 1, 0, 0, 0, 0, 0, []),
  (272, .iaload, 1, 0, 0, 0, 0, 0, []),
  (273, .aload_n 0, 1, 0, 0, 0, 0, 0, []),
  (274, .iload_n 3, 1, 3, 0, 0, 0, 0, []),
  (275, .iconst (5), 1, 0, 0, 0, (5), 0, []),
  (276, .iadd, 1, 0, 0, 0, 0, 0, []),
  (277, .iaload, 1, 0, 0, 0, 0, 0, []),
  (278, .invokevirtual 13, 3, 13, 6, 1, 0, 0, []),
  (281, .aload_n 2, 1, 2, 0, 0, 0, 0, []),
  (282, .aload_n 0, 1, 0, 0, 0, 0, 0, []),
  (283, .iload_n 3, 1, 3, 0, 0, 0, 0, []),
  (284, .iconst (1), 1, 0, 0, 0, (1), 0, []),
  (285, .iadd, 1, 0, 0, 0, 0, 0, []),
  (286, .iaload, 1, 0, 0, 0, 0, 0, []),
  (287, .aload_n 0, 1, 0, 0, 0, 0, 0, []),
  (288, .iload_n 3, 1, 3, 0, 0, 0, 0, []),
  (289, .iconst (2), 1, 0, 0, 0, (2), 0, []),
  (290, .iadd, 1, 0, 0, 0, 0, 0, []),
  (291, .iaload, 1, 0, 0, 0, 0, 0, []),
  (292, .aload_n 0, 1, 0, 0, 0, 0, 0, []),
  (293, .iload_n 3, 1, 3, 0, 0, 0, 0, []),
  (294, .iconst (3), 1, 0, 0, 0, (3), 0, []),
  (295, .iadd, 1, 0, 0, 0, 0, 0, []),
  (296, .iaload, 1, 0, 0, 0, 0, 0, []),
  (297, .aload_n 0, 1, 0, 0, 0, 0, 0, []),
  (298, .iload_n 3, 1, 3, 0, 0, 0, 0, []),
  (299, .iconst (4), 1, 0, 0, 0, (4), 0, []),
  (300, .iadd, 1, 0, 0, 0, 0, 0, []),
  (301, .iaload, 1, 0, 0, 0, 0, 0, []),
  (302, .aload_n 0, 1, 0, 0, 0, 0, 0, []),
  (303, .iload_n 3, 1, 3, 0, 0, 0, 0, []),
  (304, .iconst (5), 1, 0, 0, 0, (5), 0, []),
  (305, .iadd, 1, 0, 0, 0, 0, 0, []),
  (306, .iaload, 1, 0, 0, 0, 0, 0, []),
  (307, .invokevirtual 17, 3, 212, 6, 1, 0, 0, []),
  (310, .if_icmp .eq (1625), 3, 1935, 0, 0, 0, 0, []),
  (313, .iconst (0), 1, 0, 0, 0, (0), 0, []),
  (314, .ireturn, 1, 0, 0, 0, 0, 0, [])]
set_option maxRecDepth 100000 in
theorem lL_law_252_ck : lL_law_252.all (ra_ck mL_law 13) = true := by decide +kernel
def nL_law_252 (N : Nat) (c18 : UInt32 → Nat → Nat → Int32 → ra_H → Option (Int32 × ra_H)) (a0 : UInt32) (a1 : Nat) (a2 : Nat) (a3 : Int32) (h : ra_H) : Option (Int32 × ra_H) :=
  (ra_xI h a0 (a3 + ((1 : Int32)))).bind fun x1 =>
  (ra_xI h a0 (a3 + ((2 : Int32)))).bind fun x2 =>
  (ra_xI h a0 (a3 + ((3 : Int32)))).bind fun x3 =>
  (ra_xI h a0 (a3 + ((4 : Int32)))).bind fun x4 =>
  (ra_xI h a0 (a3 + ((5 : Int32)))).bind fun x5 =>
  (fX11_book N a1 x1 x2 x3 x4 x5 h).bind fun q6 =>
  (ra_xI q6.2 a0 (a3 + ((1 : Int32)))).bind fun x7 =>
  (ra_xI q6.2 a0 (a3 + ((2 : Int32)))).bind fun x8 =>
  (ra_xI q6.2 a0 (a3 + ((3 : Int32)))).bind fun x9 =>
  (ra_xI q6.2 a0 (a3 + ((4 : Int32)))).bind fun x10 =>
  (ra_xI q6.2 a0 (a3 + ((5 : Int32)))).bind fun x11 =>
  (fX12_book N a2 x7 x8 x9 x10 x11 q6.2).bind fun q12 =>
  if q6.1 = q12.1 then
    nL_law_1935 N c18 a0 a1 a2 a3 q12.2
  else
    some ((0 : Int32), q12.2)
def kL_law_252 (N : Nat) (c18 : UInt32 → Nat → Nat → Int32 → ra_H → Option (Int32 × ra_H)) : Nat → List (Option Value) → List Value → ra_H → Option (Int32 × ra_H) := (ra_k1 1935 (fun L S h => match L, S with
  | [some (.float a0), some (.ref a1), some (.ref a2), some (.int a3)], [] => nL_law_1935 N c18 a0 a1 a2 a3 h
  | _, _ => none) ra_k0)
theorem kL_law_252_ok (N : Nat) (c18 : UInt32 → Nat → Nat → Int32 → ra_H → Option (Int32 × ra_H)) (hc18 : ∀ a0 a1 a2 a3 h r, c18 a0 a1 a2 a3 h = some r → ra_Ru 95 mL_law 18 [some (.float a0), some (.ref a1), some (.ref a2), some (.int a3)] [] h (ra_oI r)) : ra_kok 95 mL_law ra_oI (kL_law_252 N c18) := (ra_k1_ok (by
  intro L S h a e
  split at e
  · exact ra_Ru.weak (nL_law_1935_ok N c18 hc18 _ _ _ _ _ _ e) ⟨rfl, ⟨rfl, ⟨rfl, ⟨rfl, trivial⟩⟩⟩⟩
  · cases e) ra_k0_ok)
set_option maxRecDepth 100000 in
theorem nL_law_252_ok (N : Nat) (c18 : UInt32 → Nat → Nat → Int32 → ra_H → Option (Int32 × ra_H)) (hc18 : ∀ a0 a1 a2 a3 h r, c18 a0 a1 a2 a3 h = some r → ra_Ru 95 mL_law 18 [some (.float a0), some (.ref a1), some (.ref a2), some (.int a3)] [] h (ra_oI r)) (a0 : UInt32) (a1 : Nat) (a2 : Nat) (a3 : Int32) (h : ra_H) (r : (Int32 × ra_H)) (e : nL_law_252 N c18 a0 a1 a2 a3 h = some r) : ra_Ru 95 mL_law 252 [some (.float a0), some (.ref a1), some (.ref a2), some (.int a3)] [] h (ra_oI r) :=
  ra_sound (by omega) rfl ra_rI_ok (kL_law_252_ok N c18 hc18) (fun m av h h1 e => (tVL_law_ok N) m av h h1 e) (fun m av h x h1 e => (tIL_law_ok N) m av h (x, h1) e) (fun m av h x h1 e => (ra_c0_ok (ro := ra_oJ)) m av h (x, h1) e) (fun m av h x h1 e => (ra_c0_ok (ro := ra_oR)) m av h (x, h1) e) (fun m av h x h1 e => (ra_c0_ok (ro := ra_oN)) m av h (x, h1) e) (fun m av h x h1 e => (ra_c0_ok (ro := ra_oF)) m av h (x, h1) e) 58 lL_law_252 _ _ _ _ lL_law_252_ck (show ra_run ra_rI (kL_law_252 N c18) (tVL_law N) (tIL_law N) ra_c0 ra_c0 ra_c0 ra_c0 58 lL_law_252 [some (.float a0), some (.ref a1), some (.ref a2), some (.int a3)] [] h = some r from e) _ _ rfl
def lL_law_315 : List ra_I := [(315, .aload_n 1, 1, 1, 0, 0, 0, 0, []),
  (316, .aload_n 0, 1, 0, 0, 0, 0, 0, []),
  (317, .iload_n 3, 1, 3, 0, 0, 0, 0, []),
  (318, .iconst (1), 1, 0, 0, 0, (1), 0, []),
  (319, .iadd, 1, 0, 0, 0, 0, 0, []),
  (320, .iaload, 1, 0, 0, 0, 0, 0, []),
  (321, .aload_n 0, 1, 0, 0, 0, 0, 0, []),
  (322, .iload_n 3, 1, 3, 0, 0, 0, 0, []),
  (323, .iconst (2), 1, 0, 0, 0, (2), 0, []),
  (324, .iadd, 1, 0, 0, 0, 0, 0, []),
  (325, .iaload, 1, 0, 0, 0, 0, 0, []),
  (326, .aload_n 0, 1, 0, 0, 0, 0, 0, []),
  (327, .iload_n 3, 1, 3, 0, 0, 0, 0, []),
  (328, .iconst (3), 1, 0, 0, 0, (3), 0, []),
  (329, .iadd, 1, 0, 0, 0, 0, 0, []),
  (330, .iaload, 1, 0, 0, 0, 0, 0, []),
  (331, .invokevirtual 18, 3, 25, 4, 1, 0, 0, []),
  (334, .aload_n 2, 1, 2, 0, 0, 0, 0, []),
  (335, .aload_n 0, 1, 0, 0, 0, 0, 0, []),
  (336, .iload_n 3, 1, 3, 0, 0, 0, 0, []),
  (337, .iconst (1), 1, 0, 0, 0, (1), 0, []),
  (338, .iadd, 1, 0, 0, 0, 0, 0, []),
  (339, .iaload, 1, 0, 0, 0, 0, 0, []),
  (340, .aload_n 0, 1, 0, 0, 0, 0, 0, []),
  (341, .iload_n 3, 1, 3, 0, 0, 0, 0, []),
  (342, .iconst (2), 1, 0, 0, 0, (2), 0, []),
  (343, .iadd, 1, 0, 0, 0, 0, 0, []),
  (344, .iaload, 1, 0, 0, 0, 0, 0, []),
  (345, .aload_n 0, 1, 0, 0, 0, 0, 0, []),
  (346, .iload_n 3, 1, 3, 0, 0, 0, 0, []),
  (347, .iconst (3), 1, 0, 0, 0, (3), 0, []),
  (348, .iadd, 1, 0, 0, 0, 0, 0, []),
  (349, .iaload, 1, 0, 0, 0, 0, 0, []),
  (350, .invokevirtual 22, 3, 217, 4, 1, 0, 0, []),
  (353, .if_icmp .eq (1582), 3, 1935, 0, 0, 0, 0, []),
  (356, .iconst (0), 1, 0, 0, 0, (0), 0, []),
  (357, .ireturn, 1, 0, 0, 0, 0, 0, [])]
set_option maxRecDepth 100000 in
theorem lL_law_315_ck : lL_law_315.all (ra_ck mL_law 13) = true := by decide +kernel
def nL_law_315 (N : Nat) (c18 : UInt32 → Nat → Nat → Int32 → ra_H → Option (Int32 × ra_H)) (a0 : UInt32) (a1 : Nat) (a2 : Nat) (a3 : Int32) (h : ra_H) : Option (Int32 × ra_H) :=
  (ra_xI h a0 (a3 + ((1 : Int32)))).bind fun x1 =>
  (ra_xI h a0 (a3 + ((2 : Int32)))).bind fun x2 =>
  (ra_xI h a0 (a3 + ((3 : Int32)))).bind fun x3 =>
  (fX11_fact N a1 x1 x2 x3 h).bind fun q4 =>
  (ra_xI q4.2 a0 (a3 + ((1 : Int32)))).bind fun x5 =>
  (ra_xI q4.2 a0 (a3 + ((2 : Int32)))).bind fun x6 =>
  (ra_xI q4.2 a0 (a3 + ((3 : Int32)))).bind fun x7 =>
  (fX12_fact N a2 x5 x6 x7 q4.2).bind fun q8 =>
  if q4.1 = q8.1 then
    nL_law_1935 N c18 a0 a1 a2 a3 q8.2
  else
    some ((0 : Int32), q8.2)
def kL_law_315 (N : Nat) (c18 : UInt32 → Nat → Nat → Int32 → ra_H → Option (Int32 × ra_H)) : Nat → List (Option Value) → List Value → ra_H → Option (Int32 × ra_H) := (ra_k1 1935 (fun L S h => match L, S with
  | [some (.float a0), some (.ref a1), some (.ref a2), some (.int a3)], [] => nL_law_1935 N c18 a0 a1 a2 a3 h
  | _, _ => none) ra_k0)
theorem kL_law_315_ok (N : Nat) (c18 : UInt32 → Nat → Nat → Int32 → ra_H → Option (Int32 × ra_H)) (hc18 : ∀ a0 a1 a2 a3 h r, c18 a0 a1 a2 a3 h = some r → ra_Ru 95 mL_law 18 [some (.float a0), some (.ref a1), some (.ref a2), some (.int a3)] [] h (ra_oI r)) : ra_kok 95 mL_law ra_oI (kL_law_315 N c18) := (ra_k1_ok (by
  intro L S h a e
  split at e
  · exact ra_Ru.weak (nL_law_1935_ok N c18 hc18 _ _ _ _ _ _ e) ⟨rfl, ⟨rfl, ⟨rfl, ⟨rfl, trivial⟩⟩⟩⟩
  · cases e) ra_k0_ok)
set_option maxRecDepth 100000 in
theorem nL_law_315_ok (N : Nat) (c18 : UInt32 → Nat → Nat → Int32 → ra_H → Option (Int32 × ra_H)) (hc18 : ∀ a0 a1 a2 a3 h r, c18 a0 a1 a2 a3 h = some r → ra_Ru 95 mL_law 18 [some (.float a0), some (.ref a1), some (.ref a2), some (.int a3)] [] h (ra_oI r)) (a0 : UInt32) (a1 : Nat) (a2 : Nat) (a3 : Int32) (h : ra_H) (r : (Int32 × ra_H)) (e : nL_law_315 N c18 a0 a1 a2 a3 h = some r) : ra_Ru 95 mL_law 315 [some (.float a0), some (.ref a1), some (.ref a2), some (.int a3)] [] h (ra_oI r) :=
  ra_sound (by omega) rfl ra_rI_ok (kL_law_315_ok N c18 hc18) (fun m av h h1 e => (tVL_law_ok N) m av h h1 e) (fun m av h x h1 e => (tIL_law_ok N) m av h (x, h1) e) (fun m av h x h1 e => (ra_c0_ok (ro := ra_oJ)) m av h (x, h1) e) (fun m av h x h1 e => (ra_c0_ok (ro := ra_oR)) m av h (x, h1) e) (fun m av h x h1 e => (ra_c0_ok (ro := ra_oN)) m av h (x, h1) e) (fun m av h x h1 e => (ra_c0_ok (ro := ra_oF)) m av h (x, h1) e) 38 lL_law_315 _ _ _ _ lL_law_315_ck (show ra_run ra_rI (kL_law_315 N c18) (tVL_law N) (tIL_law N) ra_c0 ra_c0 ra_c0 ra_c0 38 lL_law_315 [some (.float a0), some (.ref a1), some (.ref a2), some (.int a3)] [] h = some r from e) _ _ rfl
def lL_law_358 : List ra_I := [(358, .aload_n 1, 1, 1, 0, 0, 0, 0, []),
  (359, .aload_n 0, 1, 0, 0, 0, 0, 0, []),
  (360, .iload_n 3, 1, 3, 0, 0, 0, 0, []),
  (361, .iconst (1), 1, 0, 0, 0, (1), 0, []),
  (362, .iadd, 1, 0, 0, 0, 0, 0, []),
  (363, .iaload, 1, 0, 0, 0, 0, 0, []),
  (364, .aload_n 0, 1, 0, 0, 0, 0, 0, []),
  (365, .iload_n 3, 1, 3, 0, 0, 0, 0, []),
  (366, .iconst (2), 1, 0, 0, 0, (2), 0, []),
  (367, .iadd, 1, 0, 0, 0, 0, 0, []),
  (368, .iaload, 1, 0, 0, 0, 0, 0, []),
  (369, .aload_n 0, 1, 0, 0, 0, 0, 0, []),
  (370, .iload_n 3, 1, 3, 0, 0, 0, 0, []),
  (371, .iconst (3), 1, 0, 0, 0, (3), 0, []),
  (372, .iadd, 1, 0, 0, 0, 0, 0, []),
  (373, .iaload, 1, 0, 0, 0, 0, 0, []),
  (374, .invokevirtual 23, 3, 30, 4, 1, 0, 0, []),
  (377, .aload_n 2, 1, 2, 0, 0, 0, 0, []),
  (378, .aload_n 0, 1, 0, 0, 0, 0, 0, []),
  (379, .iload_n 3, 1, 3, 0, 0, 0, 0, []),
  (380, .iconst (1), 1, 0, 0, 0, (1), 0, []),
  (381, .iadd, 1, 0, 0, 0, 0, 0, []),
  (382, .iaload, 1, 0, 0, 0, 0, 0, []),
  (383, .aload_n 0, 1, 0, 0, 0, 0, 0, []),
  (384, .iload_n 3, 1, 3, 0, 0, 0, 0, []),
  (385, .iconst (2), 1, 0, 0, 0, (2), 0, []),
  (386, .iadd, 1, 0, 0, 0, 0, 0, []),
  (387, .iaload, 1, 0, 0, 0, 0, 0, []),
  (388, .aload_n 0, 1, 0, 0, 0, 0, 0, []),
  (389, .iload_n 3, 1, 3, 0, 0, 0, 0, []),
  (390, .iconst (3), 1, 0, 0, 0, (3), 0, []),
  (391, .iadd, 1, 0, 0, 0, 0, 0, []),
  (392, .iaload, 1, 0, 0, 0, 0, 0, []),
  (393, .invokevirtual 26, 3, 220, 4, 1, 0, 0, []),
  (396, .if_icmp .eq (1539), 3, 1935, 0, 0, 0, 0, []),
  (399, .iconst (0), 1, 0, 0, 0, (0), 0, []),
  (400, .ireturn, 1, 0, 0, 0, 0, 0, [])]
set_option maxRecDepth 100000 in
theorem lL_law_358_ck : lL_law_358.all (ra_ck mL_law 13) = true := by decide +kernel
def nL_law_358 (N : Nat) (c18 : UInt32 → Nat → Nat → Int32 → ra_H → Option (Int32 × ra_H)) (a0 : UInt32) (a1 : Nat) (a2 : Nat) (a3 : Int32) (h : ra_H) : Option (Int32 × ra_H) :=
  (ra_xI h a0 (a3 + ((1 : Int32)))).bind fun x1 =>
  (ra_xI h a0 (a3 + ((2 : Int32)))).bind fun x2 =>
  (ra_xI h a0 (a3 + ((3 : Int32)))).bind fun x3 =>
  (fX11_mark N a1 x1 x2 x3 h).bind fun q4 =>
  (ra_xI q4.2 a0 (a3 + ((1 : Int32)))).bind fun x5 =>
  (ra_xI q4.2 a0 (a3 + ((2 : Int32)))).bind fun x6 =>
  (ra_xI q4.2 a0 (a3 + ((3 : Int32)))).bind fun x7 =>
  (fX12_mark N a2 x5 x6 x7 q4.2).bind fun q8 =>
  if q4.1 = q8.1 then
    nL_law_1935 N c18 a0 a1 a2 a3 q8.2
  else
    some ((0 : Int32), q8.2)
def kL_law_358 (N : Nat) (c18 : UInt32 → Nat → Nat → Int32 → ra_H → Option (Int32 × ra_H)) : Nat → List (Option Value) → List Value → ra_H → Option (Int32 × ra_H) := (ra_k1 1935 (fun L S h => match L, S with
  | [some (.float a0), some (.ref a1), some (.ref a2), some (.int a3)], [] => nL_law_1935 N c18 a0 a1 a2 a3 h
  | _, _ => none) ra_k0)
theorem kL_law_358_ok (N : Nat) (c18 : UInt32 → Nat → Nat → Int32 → ra_H → Option (Int32 × ra_H)) (hc18 : ∀ a0 a1 a2 a3 h r, c18 a0 a1 a2 a3 h = some r → ra_Ru 95 mL_law 18 [some (.float a0), some (.ref a1), some (.ref a2), some (.int a3)] [] h (ra_oI r)) : ra_kok 95 mL_law ra_oI (kL_law_358 N c18) := (ra_k1_ok (by
  intro L S h a e
  split at e
  · exact ra_Ru.weak (nL_law_1935_ok N c18 hc18 _ _ _ _ _ _ e) ⟨rfl, ⟨rfl, ⟨rfl, ⟨rfl, trivial⟩⟩⟩⟩
  · cases e) ra_k0_ok)
set_option maxRecDepth 100000 in
theorem nL_law_358_ok (N : Nat) (c18 : UInt32 → Nat → Nat → Int32 → ra_H → Option (Int32 × ra_H)) (hc18 : ∀ a0 a1 a2 a3 h r, c18 a0 a1 a2 a3 h = some r → ra_Ru 95 mL_law 18 [some (.float a0), some (.ref a1), some (.ref a2), some (.int a3)] [] h (ra_oI r)) (a0 : UInt32) (a1 : Nat) (a2 : Nat) (a3 : Int32) (h : ra_H) (r : (Int32 × ra_H)) (e : nL_law_358 N c18 a0 a1 a2 a3 h = some r) : ra_Ru 95 mL_law 358 [some (.float a0), some (.ref a1), some (.ref a2), some (.int a3)] [] h (ra_oI r) :=
  ra_sound (by omega) rfl ra_rI_ok (kL_law_358_ok N c18 hc18) (fun m av h h1 e => (tVL_law_ok N) m av h h1 e) (fun m av h x h1 e => (tIL_law_ok N) m av h (x, h1) e) (fun m av h x h1 e => (ra_c0_ok (ro := ra_oJ)) m av h (x, h1) e) (fun m av h x h1 e => (ra_c0_ok (ro := ra_oR)) m av h (x, h1) e) (fun m av h x h1 e => (ra_c0_ok (ro := ra_oN)) m av h (x, h1) e) (fun m av h x h1 e => (ra_c0_ok (ro := ra_oF)) m av h (x, h1) e) 38 lL_law_358 _ _ _ _ lL_law_358_ck (show ra_run ra_rI (kL_law_358 N c18) (tVL_law N) (tIL_law N) ra_c0 ra_c0 ra_c0 ra_c0 38 lL_law_358 [some (.float a0), some (.ref a1), some (.ref a2), some (.int a3)] [] h = some r from e) _ _ rfl
def lL_law_401 : List ra_I := [(401, .aload_n 1, 1, 1, 0, 0, 0, 0, []),
  (402, .aload_n 0, 1, 0, 0, 0, 0, 0, []),
  (403, .iload_n 3, 1, 3, 0, 0, 0, 0, []),
  (404, .iconst (1), 1, 0, 0, 0, (1), 0, []),
  (405, .iadd, 1, 0, 0, 0, 0, 0, []),
  (406, .iaload, 1, 0, 0, 0, 0, 0, []),
  (407, .aload_n 0, 1, 0, 0, 0, 0, 0, []),
  (408, .iload_n 3, 1, 3, 0, 0, 0, 0, []),
  (409, .iconst (2), 1, 0, 0, 0, (2), 0, []),
  (410, .iadd, 1, 0, 0, 0, 0, 0, []),
  (411, .iaload, 1, 0, 0, 0, 0, 0, []),
  (412, .invokevirtual 27, 3, 31, 3, 1, 0, 0, []),
  (415, .aload_n 2, 1, 2, 0, 0, 0, 0, []),
  (416, .aload_n 0, 1, 0, 0, 0, 0, 0, []),
  (417, .iload_n 3, 1, 3, 0, 0, 0, 0, []),
  (418, .iconst (1), 1, 0, 0, 0, (1), 0, []),
  (419, .iadd, 1, 0, 0, 0, 0, 0, []),
  (420, .iaload, 1, 0, 0, 0, 0, 0, []),
  (421, .aload_n 0, 1, 0, 0, 0, 0, 0, []),
  (422, .iload_n 3, 1, 3, 0, 0, 0, 0, []),
  (423, .iconst (2), 1, 0, 0, 0, (2), 0, []),
  (424, .iadd, 1, 0, 0, 0, 0, 0, []),
  (425, .iaload, 1, 0, 0, 0, 0, 0, []),
  (426, .invokevirtual 31, 3, 221, 3, 1, 0, 0, []),
  (429, .if_icmp .eq (1506), 3, 1935, 0, 0, 0, 0, []),
  (432, .iconst (0), 1, 0, 0, 0, (0), 0, []),
  (433, .ireturn, 1, 0, 0, 0, 0, 0, [])]
set_option maxRecDepth 100000 in
theorem lL_law_401_ck : lL_law_401.all (ra_ck mL_law 13) = true := by decide +kernel
def nL_law_401 (N : Nat) (c18 : UInt32 → Nat → Nat → Int32 → ra_H → Option (Int32 × ra_H)) (a0 : UInt32) (a1 : Nat) (a2 : Nat) (a3 : Int32) (h : ra_H) : Option (Int32 × ra_H) :=
  (ra_xI h a0 (a3 + ((1 : Int32)))).bind fun x1 =>
  (ra_xI h a0 (a3 + ((2 : Int32)))).bind fun x2 =>
  (fX11_of N a1 x1 x2 h).bind fun q3 =>
  (ra_xI q3.2 a0 (a3 + ((1 : Int32)))).bind fun x4 =>
  (ra_xI q3.2 a0 (a3 + ((2 : Int32)))).bind fun x5 =>
  (fX12_of N a2 x4 x5 q3.2).bind fun q6 =>
  if q3.1 = q6.1 then
    nL_law_1935 N c18 a0 a1 a2 a3 q6.2
  else
    some ((0 : Int32), q6.2)
def kL_law_401 (N : Nat) (c18 : UInt32 → Nat → Nat → Int32 → ra_H → Option (Int32 × ra_H)) : Nat → List (Option Value) → List Value → ra_H → Option (Int32 × ra_H) := (ra_k1 1935 (fun L S h => match L, S with
  | [some (.float a0), some (.ref a1), some (.ref a2), some (.int a3)], [] => nL_law_1935 N c18 a0 a1 a2 a3 h
  | _, _ => none) ra_k0)
theorem kL_law_401_ok (N : Nat) (c18 : UInt32 → Nat → Nat → Int32 → ra_H → Option (Int32 × ra_H)) (hc18 : ∀ a0 a1 a2 a3 h r, c18 a0 a1 a2 a3 h = some r → ra_Ru 95 mL_law 18 [some (.float a0), some (.ref a1), some (.ref a2), some (.int a3)] [] h (ra_oI r)) : ra_kok 95 mL_law ra_oI (kL_law_401 N c18) := (ra_k1_ok (by
  intro L S h a e
  split at e
  · exact ra_Ru.weak (nL_law_1935_ok N c18 hc18 _ _ _ _ _ _ e) ⟨rfl, ⟨rfl, ⟨rfl, ⟨rfl, trivial⟩⟩⟩⟩
  · cases e) ra_k0_ok)
set_option maxRecDepth 100000 in
theorem nL_law_401_ok (N : Nat) (c18 : UInt32 → Nat → Nat → Int32 → ra_H → Option (Int32 × ra_H)) (hc18 : ∀ a0 a1 a2 a3 h r, c18 a0 a1 a2 a3 h = some r → ra_Ru 95 mL_law 18 [some (.float a0), some (.ref a1), some (.ref a2), some (.int a3)] [] h (ra_oI r)) (a0 : UInt32) (a1 : Nat) (a2 : Nat) (a3 : Int32) (h : ra_H) (r : (Int32 × ra_H)) (e : nL_law_401 N c18 a0 a1 a2 a3 h = some r) : ra_Ru 95 mL_law 401 [some (.float a0), some (.ref a1), some (.ref a2), some (.int a3)] [] h (ra_oI r) :=
  ra_sound (by omega) rfl ra_rI_ok (kL_law_401_ok N c18 hc18) (fun m av h h1 e => (tVL_law_ok N) m av h h1 e) (fun m av h x h1 e => (tIL_law_ok N) m av h (x, h1) e) (fun m av h x h1 e => (ra_c0_ok (ro := ra_oJ)) m av h (x, h1) e) (fun m av h x h1 e => (ra_c0_ok (ro := ra_oR)) m av h (x, h1) e) (fun m av h x h1 e => (ra_c0_ok (ro := ra_oN)) m av h (x, h1) e) (fun m av h x h1 e => (ra_c0_ok (ro := ra_oF)) m av h (x, h1) e) 28 lL_law_401 _ _ _ _ lL_law_401_ck (show ra_run ra_rI (kL_law_401 N c18) (tVL_law N) (tIL_law N) ra_c0 ra_c0 ra_c0 ra_c0 28 lL_law_401 [some (.float a0), some (.ref a1), some (.ref a2), some (.int a3)] [] h = some r from e) _ _ rfl
def lL_law_434 : List ra_I := [(434, .aload_n 1, 1, 1, 0, 0, 0, 0, []),
  (435, .aload_n 0, 1, 0, 0, 0, 0, 0, []),
  (436, .iload_n 3, 1, 3, 0, 0, 0, 0, []),
  (437, .iconst (1), 1, 0, 0, 0, (1), 0, []),
  (438, .iadd, 1, 0, 0, 0, 0, 0, []),
  (439, .iaload, 1, 0, 0, 0, 0, 0, []),
  (440, .aload_n 0, 1, 0, 0, 0, 0, 0, []),
  (441, .iload_n 3, 1, 3, 0, 0, 0, 0, []),
  (442, .iconst (2), 1, 0, 0, 0, (2), 0, []),
  (443, .iadd, 1, 0, 0, 0, 0, 0, []),
  (444, .iaload, 1, 0, 0, 0, 0, 0, []),
  (445, .invokevirtual 32, 3, 32, 3, 1, 0, 0, []),
  (448, .aload_n 2, 1, 2, 0, 0, 0, 0, []),
  (449, .aload_n 0, 1, 0, 0, 0, 0, 0, []),
  (450, .iload_n 3, 1, 3, 0, 0, 0, 0, []),
  (451, .iconst (1), 1, 0, 0, 0, (1), 0, []),
  (452, .iadd, 1, 0, 0, 0, 0, 0, []),
  (453, .iaload, 1, 0, 0, 0, 0, 0, []),
  (454, .aload_n 0, 1, 0, 0, 0, 0, 0, []),
  (455, .iload_n 3, 1, 3, 0, 0, 0, 0, []),
  (456, .iconst (2), 1, 0, 0, 0, (2), 0, []),
  (457, .iadd, 1, 0, 0, 0, 0, 0, []),
  (458, .iaload, 1, 0, 0, 0, 0, 0, []),
  (459, .invokevirtual 35, 3, 222, 3, 1, 0, 0, []),
  (462, .if_icmp .eq (1473), 3, 1935, 0, 0, 0, 0, []),
  (465, .iconst (0), 1, 0, 0, 0, (0), 0, []),
  (466, .ireturn, 1, 0, 0, 0, 0, 0, [])]
set_option maxRecDepth 100000 in
theorem lL_law_434_ck : lL_law_434.all (ra_ck mL_law 13) = true := by decide +kernel
def nL_law_434 (N : Nat) (c18 : UInt32 → Nat → Nat → Int32 → ra_H → Option (Int32 × ra_H)) (a0 : UInt32) (a1 : Nat) (a2 : Nat) (a3 : Int32) (h : ra_H) : Option (Int32 × ra_H) :=
  (ra_xI h a0 (a3 + ((1 : Int32)))).bind fun x1 =>
  (ra_xI h a0 (a3 + ((2 : Int32)))).bind fun x2 =>
  (fX11_bay N a1 x1 x2 h).bind fun q3 =>
  (ra_xI q3.2 a0 (a3 + ((1 : Int32)))).bind fun x4 =>
  (ra_xI q3.2 a0 (a3 + ((2 : Int32)))).bind fun x5 =>
  (fX12_bay N a2 x4 x5 q3.2).bind fun q6 =>
  if q3.1 = q6.1 then
    nL_law_1935 N c18 a0 a1 a2 a3 q6.2
  else
    some ((0 : Int32), q6.2)
def kL_law_434 (N : Nat) (c18 : UInt32 → Nat → Nat → Int32 → ra_H → Option (Int32 × ra_H)) : Nat → List (Option Value) → List Value → ra_H → Option (Int32 × ra_H) := (ra_k1 1935 (fun L S h => match L, S with
  | [some (.float a0), some (.ref a1), some (.ref a2), some (.int a3)], [] => nL_law_1935 N c18 a0 a1 a2 a3 h
  | _, _ => none) ra_k0)
theorem kL_law_434_ok (N : Nat) (c18 : UInt32 → Nat → Nat → Int32 → ra_H → Option (Int32 × ra_H)) (hc18 : ∀ a0 a1 a2 a3 h r, c18 a0 a1 a2 a3 h = some r → ra_Ru 95 mL_law 18 [some (.float a0), some (.ref a1), some (.ref a2), some (.int a3)] [] h (ra_oI r)) : ra_kok 95 mL_law ra_oI (kL_law_434 N c18) := (ra_k1_ok (by
  intro L S h a e
  split at e
  · exact ra_Ru.weak (nL_law_1935_ok N c18 hc18 _ _ _ _ _ _ e) ⟨rfl, ⟨rfl, ⟨rfl, ⟨rfl, trivial⟩⟩⟩⟩
  · cases e) ra_k0_ok)
set_option maxRecDepth 100000 in
theorem nL_law_434_ok (N : Nat) (c18 : UInt32 → Nat → Nat → Int32 → ra_H → Option (Int32 × ra_H)) (hc18 : ∀ a0 a1 a2 a3 h r, c18 a0 a1 a2 a3 h = some r → ra_Ru 95 mL_law 18 [some (.float a0), some (.ref a1), some (.ref a2), some (.int a3)] [] h (ra_oI r)) (a0 : UInt32) (a1 : Nat) (a2 : Nat) (a3 : Int32) (h : ra_H) (r : (Int32 × ra_H)) (e : nL_law_434 N c18 a0 a1 a2 a3 h = some r) : ra_Ru 95 mL_law 434 [some (.float a0), some (.ref a1), some (.ref a2), some (.int a3)] [] h (ra_oI r) :=
  ra_sound (by omega) rfl ra_rI_ok (kL_law_434_ok N c18 hc18) (fun m av h h1 e => (tVL_law_ok N) m av h h1 e) (fun m av h x h1 e => (tIL_law_ok N) m av h (x, h1) e) (fun m av h x h1 e => (ra_c0_ok (ro := ra_oJ)) m av h (x, h1) e) (fun m av h x h1 e => (ra_c0_ok (ro := ra_oR)) m av h (x, h1) e) (fun m av h x h1 e => (ra_c0_ok (ro := ra_oN)) m av h (x, h1) e) (fun m av h x h1 e => (ra_c0_ok (ro := ra_oF)) m av h (x, h1) e) 28 lL_law_434 _ _ _ _ lL_law_434_ck (show ra_run ra_rI (kL_law_434 N c18) (tVL_law N) (tIL_law N) ra_c0 ra_c0 ra_c0 ra_c0 28 lL_law_434 [some (.float a0), some (.ref a1), some (.ref a2), some (.int a3)] [] h = some r from e) _ _ rfl
def lL_law_467 : List ra_I := [(467, .aload_n 1, 1, 1, 0, 0, 0, 0, []),
  (468, .aload_n 0, 1, 0, 0, 0, 0, 0, []),
  (469, .iload_n 3, 1, 3, 0, 0, 0, 0, []),
  (470, .iconst (1), 1, 0, 0, 0, (1), 0, []),
  (471, .iadd, 1, 0, 0, 0, 0, 0, []),
  (472, .iaload, 1, 0, 0, 0, 0, 0, []),
  (473, .aload_n 0, 1, 0, 0, 0, 0, 0, []),
  (474, .iload_n 3, 1, 3, 0, 0, 0, 0, []),
  (475, .iconst (2), 1, 0, 0, 0, (2), 0, []),
  (476, .iadd, 1, 0, 0, 0, 0, 0, []),
  (477, .iaload, 1, 0, 0, 0, 0, 0, []),
  (478, .aload_n 0, 1, 0, 0, 0, 0, 0, []),
  (479, .iload_n 3, 1, 3, 0, 0, 0, 0, []),
  (480, .iconst (3), 1, 0, 0, 0, (3), 0, []),
  (481, .iadd, 1, 0, 0, 0, 0, 0, []),
  (482, .iaload, 1, 0, 0, 0, 0, 0, []),
  (483, .aload_n 0, 1, 0, 0, 0, 0, 0, []),
  (484, .iload_n 3, 1, 3, 0, 0, 0, 0, []),
  (485, .iconst (4), 1, 0, 0, 0, (4), 0, []),
  (486, .iadd, 1, 0, 0, 0, 0, 0, []),
  (487, .iaload, 1, 0, 0, 0, 0, 0, []),
  (488, .invokevirtual 36, 3, 33, 5, 1, 0, 0, []),
  (491, .aload_n 2, 1, 2, 0, 0, 0, 0, []),
  (492, .aload_n 0, 1, 0, 0, 0, 0, 0, []),
  (493, .iload_n 3, 1, 3, 0, 0, 0, 0, []),
  (494, .iconst (1), 1, 0, 0, 0, (1), 0, []),
  (495, .iadd, 1, 0, 0, 0, 0, 0, []),
  (496, .iaload, 1, 0, 0, 0, 0, 0, []),
  (497, .aload_n 0, 1, 0, 0, 0, 0, 0, []),
  (498, .iload_n 3, 1, 3, 0, 0, 0, 0, []),
  (499, .iconst (2), 1, 0, 0, 0, (2), 0, []),
  (500, .iadd, 1, 0, 0, 0, 0, 0, []),
  (501, .iaload, 1, 0, 0, 0, 0, 0, []),
  (502, .aload_n 0, 1, 0, 0, 0, 0, 0, []),
  (503, .iload_n 3, 1, 3, 0, 0, 0, 0, []),
  (504, .iconst (3), 1, 0, 0, 0, (3), 0, []),
  (505, .iadd, 1, 0, 0, 0, 0, 0, []),
  (506, .iaload, 1, 0, 0, 0, 0, 0, []),
  (507, .aload_n 0, 1, 0, 0, 0, 0, 0, []),
  (508, .iload_n 3, 1, 3, 0, 0, 0, 0, []),
  (509, .iconst (4), 1, 0, 0, 0, (4), 0, []),
  (510, .iadd, 1, 0, 0, 0, 0, 0, []),
  (511, .iaload, 1, 0, 0, 0, 0, 0, []),
  (512, .invokevirtual 40, 3, 223, 5, 1, 0, 0, []),
  (515, .if_icmp .eq (1420), 3, 1935, 0, 0, 0, 0, []),
  (518, .iconst (0), 1, 0, 0, 0, (0), 0, []),
  (519, .ireturn, 1, 0, 0, 0, 0, 0, [])]
set_option maxRecDepth 100000 in
theorem lL_law_467_ck : lL_law_467.all (ra_ck mL_law 13) = true := by decide +kernel
def nL_law_467 (N : Nat) (c18 : UInt32 → Nat → Nat → Int32 → ra_H → Option (Int32 × ra_H)) (a0 : UInt32) (a1 : Nat) (a2 : Nat) (a3 : Int32) (h : ra_H) : Option (Int32 × ra_H) :=
  (ra_xI h a0 (a3 + ((1 : Int32)))).bind fun x1 =>
  (ra_xI h a0 (a3 + ((2 : Int32)))).bind fun x2 =>
  (ra_xI h a0 (a3 + ((3 : Int32)))).bind fun x3 =>
  (ra_xI h a0 (a3 + ((4 : Int32)))).bind fun x4 =>
  (fX11_shelf N a1 x1 x2 x3 x4 h).bind fun q5 =>
  (ra_xI q5.2 a0 (a3 + ((1 : Int32)))).bind fun x6 =>
  (ra_xI q5.2 a0 (a3 + ((2 : Int32)))).bind fun x7 =>
  (ra_xI q5.2 a0 (a3 + ((3 : Int32)))).bind fun x8 =>
  (ra_xI q5.2 a0 (a3 + ((4 : Int32)))).bind fun x9 =>
  (fX12_shelf N a2 x6 x7 x8 x9 q5.2).bind fun q10 =>
  if q5.1 = q10.1 then
    nL_law_1935 N c18 a0 a1 a2 a3 q10.2
  else
    some ((0 : Int32), q10.2)
def kL_law_467 (N : Nat) (c18 : UInt32 → Nat → Nat → Int32 → ra_H → Option (Int32 × ra_H)) : Nat → List (Option Value) → List Value → ra_H → Option (Int32 × ra_H) := (ra_k1 1935 (fun L S h => match L, S with
  | [some (.float a0), some (.ref a1), some (.ref a2), some (.int a3)], [] => nL_law_1935 N c18 a0 a1 a2 a3 h
  | _, _ => none) ra_k0)
theorem kL_law_467_ok (N : Nat) (c18 : UInt32 → Nat → Nat → Int32 → ra_H → Option (Int32 × ra_H)) (hc18 : ∀ a0 a1 a2 a3 h r, c18 a0 a1 a2 a3 h = some r → ra_Ru 95 mL_law 18 [some (.float a0), some (.ref a1), some (.ref a2), some (.int a3)] [] h (ra_oI r)) : ra_kok 95 mL_law ra_oI (kL_law_467 N c18) := (ra_k1_ok (by
  intro L S h a e
  split at e
  · exact ra_Ru.weak (nL_law_1935_ok N c18 hc18 _ _ _ _ _ _ e) ⟨rfl, ⟨rfl, ⟨rfl, ⟨rfl, trivial⟩⟩⟩⟩
  · cases e) ra_k0_ok)
set_option maxRecDepth 100000 in
theorem nL_law_467_ok (N : Nat) (c18 : UInt32 → Nat → Nat → Int32 → ra_H → Option (Int32 × ra_H)) (hc18 : ∀ a0 a1 a2 a3 h r, c18 a0 a1 a2 a3 h = some r → ra_Ru 95 mL_law 18 [some (.float a0), some (.ref a1), some (.ref a2), some (.int a3)] [] h (ra_oI r)) (a0 : UInt32) (a1 : Nat) (a2 : Nat) (a3 : Int32) (h : ra_H) (r : (Int32 × ra_H)) (e : nL_law_467 N c18 a0 a1 a2 a3 h = some r) : ra_Ru 95 mL_law 467 [some (.float a0), some (.ref a1), some (.ref a2), some (.int a3)] [] h (ra_oI r) :=
  ra_sound (by omega) rfl ra_rI_ok (kL_law_467_ok N c18 hc18) (fun m av h h1 e => (tVL_law_ok N) m av h h1 e) (fun m av h x h1 e => (tIL_law_ok N) m av h (x, h1) e) (fun m av h x h1 e => (ra_c0_ok (ro := ra_oJ)) m av h (x, h1) e) (fun m av h x h1 e => (ra_c0_ok (ro := ra_oR)) m av h (x, h1) e) (fun m av h x h1 e => (ra_c0_ok (ro := ra_oN)) m av h (x, h1) e) (fun m av h x h1 e => (ra_c0_ok (ro := ra_oF)) m av h (x, h1) e) 48 lL_law_467 _ _ _ _ lL_law_467_ck (show ra_run ra_rI (kL_law_467 N c18) (tVL_law N) (tIL_law N) ra_c0 ra_c0 ra_c0 ra_c0 48 lL_law_467 [some (.float a0), some (.ref a1), some (.ref a2), some (.int a3)] [] h = some r from e) _ _ rfl
def lL_law_520 : List ra_I := [(520, .aload_n 1, 1, 1, 0, 0, 0, 0, []),
  (521, .aload_n 0, 1, 0, 0, 0, 0, 0, []),
  (522, .iload_n 3, 1, 3, 0, 0, 0, 0, []),
  (523, .iconst (1), 1, 0, 0, 0, (1), 0, []),
  (524, .iadd, 1, 0, 0, 0, 0, 0, []),
  (525, .iaload, 1, 0, 0, 0, 0, 0, []),
  (526, .aload_n 0, 1, 0, 0, 0, 0, 0, []),
  (527, .iload_n 3, 1, 3, 0, 0, 0, 0, []),
  (528, .iconst (2), 1, 0, 0, 0, (2), 0, []),
  (529, .iadd, 1, 0, 0, 0, 0, 0, []),
  (530, .iaload, 1, 0, 0, 0, 0, 0, []),
  (531, .aload_n 0, 1, 0, 0, 0, 0, 0, []),
  (532, .iload_n 3, 1, 3, 0, 0, 0, 0, []),
  (533, .iconst (3), 1, 0, 0, 0, (3), 0, []),
  (534, .iadd, 1, 0, 0, 0, 0, 0, []),
  (535, .iaload, 1, 0, 0, 0, 0, 0, []),
  (536, .aload_n 0, 1, 0, 0, 0, 0, 0, []),
  (537, .iload_n 3, 1, 3, 0, 0, 0, 0, []),
  (538, .iconst (4), 1, 0, 0, 0, (4), 0, []),
  (539, .iadd, 1, 0, 0, 0, 0, 0, []),
  (540, .iaload, 1, 0, 0, 0, 0, 0, []),
  (541, .aload_n 0, 1, 0, 0, 0, 0, 0, []),
  (542, .iload_n 3, 1, 3, 0, 0, 0, 0, []),
  (543, .iconst (5), 1, 0, 0, 0, (5), 0, []),
  (544, .iadd, 1, 0, 0, 0, 0, 0, []),
  (545, .iaload, 1, 0, 0, 0, 0, 0, []),
  (546, .invokevirtual 41, 3, 35, 6, 1, 0, 0, []),
  (549, .aload_n 2, 1, 2, 0, 0, 0, 0, []),
  (550, .aload_n 0, 1, 0, 0, 0, 0, 0, []),
  (551, .iload_n 3, 1, 3, 0, 0, 0, 0, []),
  (552, .iconst (1), 1, 0, 0, 0, (1), 0, []),
  (553, .iadd, 1, 0, 0, 0, 0, 0, []),
  (554, .iaload, 1, 0, 0, 0, 0, 0, []),
  (555, .aload_n 0, 1, 0, 0, 0, 0, 0, []),
  (556, .iload_n 3, 1, 3, 0, 0, 0, 0, []),
  (557, .iconst (2), 1, 0, 0, 0, (2), 0, []),
  (558, .iadd, 1, 0, 0, 0, 0, 0, []),
  (559, .iaload, 1, 0, 0, 0, 0, 0, []),
  (560, .aload_n 0, 1, 0, 0, 0, 0, 0, []),
  (561, .iload_n 3, 1, 3, 0, 0, 0, 0, []),
  (562, .iconst (3), 1, 0, 0, 0, (3), 0, []),
  (563, .iadd, 1, 0, 0, 0, 0, 0, []),
  (564, .iaload, 1, 0, 0, 0, 0, 0, []),
  (565, .aload_n 0, 1, 0, 0, 0, 0, 0, []),
  (566, .iload_n 3, 1, 3, 0, 0, 0, 0, []),
  (567, .iconst (4), 1, 0, 0, 0, (4), 0, []),
  (568, .iadd, 1, 0, 0, 0, 0, 0, []),
  (569, .iaload, 1, 0, 0, 0, 0, 0, []),
  (570, .aload_n 0, 1, 0, 0, 0, 0, 0, []),
  (571, .iload_n 3, 1, 3, 0, 0, 0, 0, []),
  (572, .iconst (5), 1, 0, 0, 0, (5), 0, []),
  (573, .iadd, 1, 0, 0, 0, 0, 0, []),
  (574, .iaload, 1, 0, 0, 0, 0, 0, []),
  (575, .invokevirtual 44, 3, 227, 6, 1, 0, 0, []),
  (578, .if_icmp .eq (1357), 3, 1935, 0, 0, 0, 0, []),
  (581, .iconst (0), 1, 0, 0, 0, (0), 0, []),
  (582, .ireturn, 1, 0, 0, 0, 0, 0, [])]
set_option maxRecDepth 100000 in
theorem lL_law_520_ck : lL_law_520.all (ra_ck mL_law 13) = true := by decide +kernel
def nL_law_520 (N : Nat) (c18 : UInt32 → Nat → Nat → Int32 → ra_H → Option (Int32 × ra_H)) (a0 : UInt32) (a1 : Nat) (a2 : Nat) (a3 : Int32) (h : ra_H) : Option (Int32 × ra_H) :=
  (ra_xI h a0 (a3 + ((1 : Int32)))).bind fun x1 =>
  (ra_xI h a0 (a3 + ((2 : Int32)))).bind fun x2 =>
  (ra_xI h a0 (a3 + ((3 : Int32)))).bind fun x3 =>
  (ra_xI h a0 (a3 + ((4 : Int32)))).bind fun x4 =>
  (ra_xI h a0 (a3 + ((5 : Int32)))).bind fun x5 =>
  (fX11_feed N a1 x1 x2 x3 x4 x5 h).bind fun q6 =>
  (ra_xI q6.2 a0 (a3 + ((1 : Int32)))).bind fun x7 =>
  (ra_xI q6.2 a0 (a3 + ((2 : Int32)))).bind fun x8 =>
  (ra_xI q6.2 a0 (a3 + ((3 : Int32)))).bind fun x9 =>
  (ra_xI q6.2 a0 (a3 + ((4 : Int32)))).bind fun x10 =>
  (ra_xI q6.2 a0 (a3 + ((5 : Int32)))).bind fun x11 =>
  (fX12_feed N a2 x7 x8 x9 x10 x11 q6.2).bind fun q12 =>
  if q6.1 = q12.1 then
    nL_law_1935 N c18 a0 a1 a2 a3 q12.2
  else
    some ((0 : Int32), q12.2)
def kL_law_520 (N : Nat) (c18 : UInt32 → Nat → Nat → Int32 → ra_H → Option (Int32 × ra_H)) : Nat → List (Option Value) → List Value → ra_H → Option (Int32 × ra_H) := (ra_k1 1935 (fun L S h => match L, S with
  | [some (.float a0), some (.ref a1), some (.ref a2), some (.int a3)], [] => nL_law_1935 N c18 a0 a1 a2 a3 h
  | _, _ => none) ra_k0)
theorem kL_law_520_ok (N : Nat) (c18 : UInt32 → Nat → Nat → Int32 → ra_H → Option (Int32 × ra_H)) (hc18 : ∀ a0 a1 a2 a3 h r, c18 a0 a1 a2 a3 h = some r → ra_Ru 95 mL_law 18 [some (.float a0), some (.ref a1), some (.ref a2), some (.int a3)] [] h (ra_oI r)) : ra_kok 95 mL_law ra_oI (kL_law_520 N c18) := (ra_k1_ok (by
  intro L S h a e
  split at e
  · exact ra_Ru.weak (nL_law_1935_ok N c18 hc18 _ _ _ _ _ _ e) ⟨rfl, ⟨rfl, ⟨rfl, ⟨rfl, trivial⟩⟩⟩⟩
  · cases e) ra_k0_ok)
set_option maxRecDepth 100000 in
theorem nL_law_520_ok (N : Nat) (c18 : UInt32 → Nat → Nat → Int32 → ra_H → Option (Int32 × ra_H)) (hc18 : ∀ a0 a1 a2 a3 h r, c18 a0 a1 a2 a3 h = some r → ra_Ru 95 mL_law 18 [some (.float a0), some (.ref a1), some (.ref a2), some (.int a3)] [] h (ra_oI r)) (a0 : UInt32) (a1 : Nat) (a2 : Nat) (a3 : Int32) (h : ra_H) (r : (Int32 × ra_H)) (e : nL_law_520 N c18 a0 a1 a2 a3 h = some r) : ra_Ru 95 mL_law 520 [some (.float a0), some (.ref a1), some (.ref a2), some (.int a3)] [] h (ra_oI r) :=
  ra_sound (by omega) rfl ra_rI_ok (kL_law_520_ok N c18 hc18) (fun m av h h1 e => (tVL_law_ok N) m av h h1 e) (fun m av h x h1 e => (tIL_law_ok N) m av h (x, h1) e) (fun m av h x h1 e => (ra_c0_ok (ro := ra_oJ)) m av h (x, h1) e) (fun m av h x h1 e => (ra_c0_ok (ro := ra_oR)) m av h (x, h1) e) (fun m av h x h1 e => (ra_c0_ok (ro := ra_oN)) m av h (x, h1) e) (fun m av h x h1 e => (ra_c0_ok (ro := ra_oF)) m av h (x, h1) e) 58 lL_law_520 _ _ _ _ lL_law_520_ck (show ra_run ra_rI (kL_law_520 N c18) (tVL_law N) (tIL_law N) ra_c0 ra_c0 ra_c0 ra_c0 58 lL_law_520 [some (.float a0), some (.ref a1), some (.ref a2), some (.int a3)] [] h = some r from e) _ _ rfl
def lL_law_583 : List ra_I := [(583, .aload_n 1, 1, 1, 0, 0, 0, 0, []),
  (584, .aload_n 0, 1, 0, 0, 0, 0, 0, []),
  (585, .iload_n 3, 1, 3, 0, 0, 0, 0, []),
  (586, .iconst (1), 1, 0, 0, 0, (1), 0, []),
  (587, .iadd, 1, 0, 0, 0, 0, 0, []),
  (588, .iaload, 1, 0, 0, 0, 0, 0, []),
  (589, .invokevirtual 45, 3, 37, 2, 1, 0, 0, []),
  (592, .aload_n 2, 1, 2, 0, 0, 0, 0, []),
  (593, .aload_n 0, 1, 0, 0, 0, 0, 0, []),
  (594, .iload_n 3, 1, 3, 0, 0, 0, 0, []),
  (595, .iconst (1), 1, 0, 0, 0, (1), 0, []),
  (596, .iadd, 1, 0, 0, 0, 0, 0, []),
  (597, .iaload, 1, 0, 0, 0, 0, 0, []),
  (598, .invokevirtual 49, 3, 229, 2, 1, 0, 0, []),
  (601, .if_icmp .eq (1334), 3, 1935, 0, 0, 0, 0, []),
  (604, .iconst (0), 1, 0, 0, 0, (0), 0, []),
  (605, .ireturn, 1, 0, 0, 0, 0, 0, [])]
set_option maxRecDepth 100000 in
theorem lL_law_583_ck : lL_law_583.all (ra_ck mL_law 13) = true := by decide +kernel
def nL_law_583 (N : Nat) (c18 : UInt32 → Nat → Nat → Int32 → ra_H → Option (Int32 × ra_H)) (a0 : UInt32) (a1 : Nat) (a2 : Nat) (a3 : Int32) (h : ra_H) : Option (Int32 × ra_H) :=
  (ra_xI h a0 (a3 + ((1 : Int32)))).bind fun x1 =>
  (fX11_end N a1 x1 h).bind fun q2 =>
  (ra_xI q2.2 a0 (a3 + ((1 : Int32)))).bind fun x3 =>
  (fX12_end N a2 x3 q2.2).bind fun q4 =>
  if q2.1 = q4.1 then
    nL_law_1935 N c18 a0 a1 a2 a3 q4.2
  else
    some ((0 : Int32), q4.2)
def kL_law_583 (N : Nat) (c18 : UInt32 → Nat → Nat → Int32 → ra_H → Option (Int32 × ra_H)) : Nat → List (Option Value) → List Value → ra_H → Option (Int32 × ra_H) := (ra_k1 1935 (fun L S h => match L, S with
  | [some (.float a0), some (.ref a1), some (.ref a2), some (.int a3)], [] => nL_law_1935 N c18 a0 a1 a2 a3 h
  | _, _ => none) ra_k0)
theorem kL_law_583_ok (N : Nat) (c18 : UInt32 → Nat → Nat → Int32 → ra_H → Option (Int32 × ra_H)) (hc18 : ∀ a0 a1 a2 a3 h r, c18 a0 a1 a2 a3 h = some r → ra_Ru 95 mL_law 18 [some (.float a0), some (.ref a1), some (.ref a2), some (.int a3)] [] h (ra_oI r)) : ra_kok 95 mL_law ra_oI (kL_law_583 N c18) := (ra_k1_ok (by
  intro L S h a e
  split at e
  · exact ra_Ru.weak (nL_law_1935_ok N c18 hc18 _ _ _ _ _ _ e) ⟨rfl, ⟨rfl, ⟨rfl, ⟨rfl, trivial⟩⟩⟩⟩
  · cases e) ra_k0_ok)
set_option maxRecDepth 100000 in
theorem nL_law_583_ok (N : Nat) (c18 : UInt32 → Nat → Nat → Int32 → ra_H → Option (Int32 × ra_H)) (hc18 : ∀ a0 a1 a2 a3 h r, c18 a0 a1 a2 a3 h = some r → ra_Ru 95 mL_law 18 [some (.float a0), some (.ref a1), some (.ref a2), some (.int a3)] [] h (ra_oI r)) (a0 : UInt32) (a1 : Nat) (a2 : Nat) (a3 : Int32) (h : ra_H) (r : (Int32 × ra_H)) (e : nL_law_583 N c18 a0 a1 a2 a3 h = some r) : ra_Ru 95 mL_law 583 [some (.float a0), some (.ref a1), some (.ref a2), some (.int a3)] [] h (ra_oI r) :=
  ra_sound (by omega) rfl ra_rI_ok (kL_law_583_ok N c18 hc18) (fun m av h h1 e => (tVL_law_ok N) m av h h1 e) (fun m av h x h1 e => (tIL_law_ok N) m av h (x, h1) e) (fun m av h x h1 e => (ra_c0_ok (ro := ra_oJ)) m av h (x, h1) e) (fun m av h x h1 e => (ra_c0_ok (ro := ra_oR)) m av h (x, h1) e) (fun m av h x h1 e => (ra_c0_ok (ro := ra_oN)) m av h (x, h1) e) (fun m av h x h1 e => (ra_c0_ok (ro := ra_oF)) m av h (x, h1) e) 18 lL_law_583 _ _ _ _ lL_law_583_ck (show ra_run ra_rI (kL_law_583 N c18) (tVL_law N) (tIL_law N) ra_c0 ra_c0 ra_c0 ra_c0 18 lL_law_583 [some (.float a0), some (.ref a1), some (.ref a2), some (.int a3)] [] h = some r from e) _ _ rfl
def lL_law_606 : List ra_I := [(606, .aload_n 1, 1, 1, 0, 0, 0, 0, []),
  (607, .invokevirtual 50, 3, 38, 1, 1, 0, 0, []),
  (610, .aload_n 2, 1, 2, 0, 0, 0, 0, []),
  (611, .invokevirtual 54, 3, 225, 1, 1, 0, 0, []),
  (614, .if_icmp .eq (1321), 3, 1935, 0, 0, 0, 0, []),
  (617, .iconst (0), 1, 0, 0, 0, (0), 0, []),
  (618, .ireturn, 1, 0, 0, 0, 0, 0, [])]
set_option maxRecDepth 100000 in
theorem lL_law_606_ck : lL_law_606.all (ra_ck mL_law 13) = true := by decide +kernel
def nL_law_606 (N : Nat) (c18 : UInt32 → Nat → Nat → Int32 → ra_H → Option (Int32 × ra_H)) (a0 : UInt32) (a1 : Nat) (a2 : Nat) (a3 : Int32) (h : ra_H) : Option (Int32 × ra_H) :=
  (fX11_row N a1 h).bind fun q1 =>
  (fX12_row N a2 q1.2).bind fun q2 =>
  if q1.1 = q2.1 then
    nL_law_1935 N c18 a0 a1 a2 a3 q2.2
  else
    some ((0 : Int32), q2.2)
def kL_law_606 (N : Nat) (c18 : UInt32 → Nat → Nat → Int32 → ra_H → Option (Int32 × ra_H)) : Nat → List (Option Value) → List Value → ra_H → Option (Int32 × ra_H) := (ra_k1 1935 (fun L S h => match L, S with
  | [some (.float a0), some (.ref a1), some (.ref a2), some (.int a3)], [] => nL_law_1935 N c18 a0 a1 a2 a3 h
  | _, _ => none) ra_k0)
theorem kL_law_606_ok (N : Nat) (c18 : UInt32 → Nat → Nat → Int32 → ra_H → Option (Int32 × ra_H)) (hc18 : ∀ a0 a1 a2 a3 h r, c18 a0 a1 a2 a3 h = some r → ra_Ru 95 mL_law 18 [some (.float a0), some (.ref a1), some (.ref a2), some (.int a3)] [] h (ra_oI r)) : ra_kok 95 mL_law ra_oI (kL_law_606 N c18) := (ra_k1_ok (by
  intro L S h a e
  split at e
  · exact ra_Ru.weak (nL_law_1935_ok N c18 hc18 _ _ _ _ _ _ e) ⟨rfl, ⟨rfl, ⟨rfl, ⟨rfl, trivial⟩⟩⟩⟩
  · cases e) ra_k0_ok)
set_option maxRecDepth 100000 in
theorem nL_law_606_ok (N : Nat) (c18 : UInt32 → Nat → Nat → Int32 → ra_H → Option (Int32 × ra_H)) (hc18 : ∀ a0 a1 a2 a3 h r, c18 a0 a1 a2 a3 h = some r → ra_Ru 95 mL_law 18 [some (.float a0), some (.ref a1), some (.ref a2), some (.int a3)] [] h (ra_oI r)) (a0 : UInt32) (a1 : Nat) (a2 : Nat) (a3 : Int32) (h : ra_H) (r : (Int32 × ra_H)) (e : nL_law_606 N c18 a0 a1 a2 a3 h = some r) : ra_Ru 95 mL_law 606 [some (.float a0), some (.ref a1), some (.ref a2), some (.int a3)] [] h (ra_oI r) :=
  ra_sound (by omega) rfl ra_rI_ok (kL_law_606_ok N c18 hc18) (fun m av h h1 e => (tVL_law_ok N) m av h h1 e) (fun m av h x h1 e => (tIL_law_ok N) m av h (x, h1) e) (fun m av h x h1 e => (ra_c0_ok (ro := ra_oJ)) m av h (x, h1) e) (fun m av h x h1 e => (ra_c0_ok (ro := ra_oR)) m av h (x, h1) e) (fun m av h x h1 e => (ra_c0_ok (ro := ra_oN)) m av h (x, h1) e) (fun m av h x h1 e => (ra_c0_ok (ro := ra_oF)) m av h (x, h1) e) 8 lL_law_606 _ _ _ _ lL_law_606_ck (show ra_run ra_rI (kL_law_606 N c18) (tVL_law N) (tIL_law N) ra_c0 ra_c0 ra_c0 ra_c0 8 lL_law_606 [some (.float a0), some (.ref a1), some (.ref a2), some (.int a3)] [] h = some r from e) _ _ rfl
def lL_law_619 : List ra_I := [(619, .aload_n 1, 1, 1, 0, 0, 0, 0, []),
  (620, .invokevirtual 55, 3, 40, 1, 1, 0, 0, []),
  (623, .aload_n 2, 1, 2, 0, 0, 0, 0, []),
  (624, .invokevirtual 58, 3, 226, 1, 1, 0, 0, []),
  (627, .if_icmp .eq (1308), 3, 1935, 0, 0, 0, 0, []),
  (630, .iconst (0), 1, 0, 0, 0, (0), 0, []),
  (631, .ireturn, 1, 0, 0, 0, 0, 0, [])]
set_option maxRecDepth 100000 in
theorem lL_law_619_ck : lL_law_619.all (ra_ck mL_law 13) = true := by decide +kernel
def nL_law_619 (N : Nat) (c18 : UInt32 → Nat → Nat → Int32 → ra_H → Option (Int32 × ra_H)) (a0 : UInt32) (a1 : Nat) (a2 : Nat) (a3 : Int32) (h : ra_H) : Option (Int32 × ra_H) :=
  (fX11_rebound N a1 h).bind fun q1 =>
  (fX12_rebound N a2 q1.2).bind fun q2 =>
  if q1.1 = q2.1 then
    nL_law_1935 N c18 a0 a1 a2 a3 q2.2
  else
    some ((0 : Int32), q2.2)
def kL_law_619 (N : Nat) (c18 : UInt32 → Nat → Nat → Int32 → ra_H → Option (Int32 × ra_H)) : Nat → List (Option Value) → List Value → ra_H → Option (Int32 × ra_H) := (ra_k1 1935 (fun L S h => match L, S with
  | [some (.float a0), some (.ref a1), some (.ref a2), some (.int a3)], [] => nL_law_1935 N c18 a0 a1 a2 a3 h
  | _, _ => none) ra_k0)
theorem kL_law_619_ok (N : Nat) (c18 : UInt32 → Nat → Nat → Int32 → ra_H → Option (Int32 × ra_H)) (hc18 : ∀ a0 a1 a2 a3 h r, c18 a0 a1 a2 a3 h = some r → ra_Ru 95 mL_law 18 [some (.float a0), some (.ref a1), some (.ref a2), some (.int a3)] [] h (ra_oI r)) : ra_kok 95 mL_law ra_oI (kL_law_619 N c18) := (ra_k1_ok (by
  intro L S h a e
  split at e
  · exact ra_Ru.weak (nL_law_1935_ok N c18 hc18 _ _ _ _ _ _ e) ⟨rfl, ⟨rfl, ⟨rfl, ⟨rfl, trivial⟩⟩⟩⟩
  · cases e) ra_k0_ok)
set_option maxRecDepth 100000 in
theorem nL_law_619_ok (N : Nat) (c18 : UInt32 → Nat → Nat → Int32 → ra_H → Option (Int32 × ra_H)) (hc18 : ∀ a0 a1 a2 a3 h r, c18 a0 a1 a2 a3 h = some r → ra_Ru 95 mL_law 18 [some (.float a0), some (.ref a1), some (.ref a2), some (.int a3)] [] h (ra_oI r)) (a0 : UInt32) (a1 : Nat) (a2 : Nat) (a3 : Int32) (h : ra_H) (r : (Int32 × ra_H)) (e : nL_law_619 N c18 a0 a1 a2 a3 h = some r) : ra_Ru 95 mL_law 619 [some (.float a0), some (.ref a1), some (.ref a2), some (.int a3)] [] h (ra_oI r) :=
  ra_sound (by omega) rfl ra_rI_ok (kL_law_619_ok N c18 hc18) (fun m av h h1 e => (tVL_law_ok N) m av h h1 e) (fun m av h x h1 e => (tIL_law_ok N) m av h (x, h1) e) (fun m av h x h1 e => (ra_c0_ok (ro := ra_oJ)) m av h (x, h1) e) (fun m av h x h1 e => (ra_c0_ok (ro := ra_oR)) m av h (x, h1) e) (fun m av h x h1 e => (ra_c0_ok (ro := ra_oN)) m av h (x, h1) e) (fun m av h x h1 e => (ra_c0_ok (ro := ra_oF)) m av h (x, h1) e) 8 lL_law_619 _ _ _ _ lL_law_619_ck (show ra_run ra_rI (kL_law_619 N c18) (tVL_law N) (tIL_law N) ra_c0 ra_c0 ra_c0 ra_c0 8 lL_law_619 [some (.float a0), some (.ref a1), some (.ref a2), some (.int a3)] [] h = some r from e) _ _ rfl
def lL_law_632 : List ra_I := [(632, .aload_n 1, 1, 1, 0, 0, 0, 0, []),
  (633, .invokevirtual 59, 3, 41, 1, 1, 0, 0, []),
  (636, .aload_n 2, 1, 2, 0, 0, 0, 0, []),
  (637, .invokevirtual 62, 3, 231, 1, 1, 0, 0, []),
  (640, .if_icmp .eq (1295), 3, 1935, 0, 0, 0, 0, []),
  (643, .iconst (0), 1, 0, 0, 0, (0), 0, []),
  (644, .ireturn, 1, 0, 0, 0, 0, 0, [])]
set_option maxRecDepth 100000 in
theorem lL_law_632_ck : lL_law_632.all (ra_ck mL_law 13) = true := by decide +kernel
def nL_law_632 (N : Nat) (c18 : UInt32 → Nat → Nat → Int32 → ra_H → Option (Int32 × ra_H)) (a0 : UInt32) (a1 : Nat) (a2 : Nat) (a3 : Int32) (h : ra_H) : Option (Int32 × ra_H) :=
  (fX11_text N a1 h).bind fun q1 =>
  (fX12_text N a2 q1.2).bind fun q2 =>
  if q1.1 = q2.1 then
    nL_law_1935 N c18 a0 a1 a2 a3 q2.2
  else
    some ((0 : Int32), q2.2)
def kL_law_632 (N : Nat) (c18 : UInt32 → Nat → Nat → Int32 → ra_H → Option (Int32 × ra_H)) : Nat → List (Option Value) → List Value → ra_H → Option (Int32 × ra_H) := (ra_k1 1935 (fun L S h => match L, S with
  | [some (.float a0), some (.ref a1), some (.ref a2), some (.int a3)], [] => nL_law_1935 N c18 a0 a1 a2 a3 h
  | _, _ => none) ra_k0)
theorem kL_law_632_ok (N : Nat) (c18 : UInt32 → Nat → Nat → Int32 → ra_H → Option (Int32 × ra_H)) (hc18 : ∀ a0 a1 a2 a3 h r, c18 a0 a1 a2 a3 h = some r → ra_Ru 95 mL_law 18 [some (.float a0), some (.ref a1), some (.ref a2), some (.int a3)] [] h (ra_oI r)) : ra_kok 95 mL_law ra_oI (kL_law_632 N c18) := (ra_k1_ok (by
  intro L S h a e
  split at e
  · exact ra_Ru.weak (nL_law_1935_ok N c18 hc18 _ _ _ _ _ _ e) ⟨rfl, ⟨rfl, ⟨rfl, ⟨rfl, trivial⟩⟩⟩⟩
  · cases e) ra_k0_ok)
set_option maxRecDepth 100000 in
theorem nL_law_632_ok (N : Nat) (c18 : UInt32 → Nat → Nat → Int32 → ra_H → Option (Int32 × ra_H)) (hc18 : ∀ a0 a1 a2 a3 h r, c18 a0 a1 a2 a3 h = some r → ra_Ru 95 mL_law 18 [some (.float a0), some (.ref a1), some (.ref a2), some (.int a3)] [] h (ra_oI r)) (a0 : UInt32) (a1 : Nat) (a2 : Nat) (a3 : Int32) (h : ra_H) (r : (Int32 × ra_H)) (e : nL_law_632 N c18 a0 a1 a2 a3 h = some r) : ra_Ru 95 mL_law 632 [some (.float a0), some (.ref a1), some (.ref a2), some (.int a3)] [] h (ra_oI r) :=
  ra_sound (by omega) rfl ra_rI_ok (kL_law_632_ok N c18 hc18) (fun m av h h1 e => (tVL_law_ok N) m av h h1 e) (fun m av h x h1 e => (tIL_law_ok N) m av h (x, h1) e) (fun m av h x h1 e => (ra_c0_ok (ro := ra_oJ)) m av h (x, h1) e) (fun m av h x h1 e => (ra_c0_ok (ro := ra_oR)) m av h (x, h1) e) (fun m av h x h1 e => (ra_c0_ok (ro := ra_oN)) m av h (x, h1) e) (fun m av h x h1 e => (ra_c0_ok (ro := ra_oF)) m av h (x, h1) e) 8 lL_law_632 _ _ _ _ lL_law_632_ck (show ra_run ra_rI (kL_law_632 N c18) (tVL_law N) (tIL_law N) ra_c0 ra_c0 ra_c0 ra_c0 8 lL_law_632 [some (.float a0), some (.ref a1), some (.ref a2), some (.int a3)] [] h = some r from e) _ _ rfl
def lL_law_645 : List ra_I := [(645, .aload_n 1, 1, 1, 0, 0, 0, 0, []),
  (646, .invokevirtual 63, 3, 80, 1, 1, 0, 0, []),
  (649, .aload_n 2, 1, 2, 0, 0, 0, 0, []),
  (650, .invokevirtual 66, 3, 230, 1, 1, 0, 0, []),
  (653, .if_icmp .eq (1282), 3, 1935, 0, 0, 0, 0, []),
  (656, .iconst (0), 1, 0, 0, 0, (0), 0, []),
  (657, .ireturn, 1, 0, 0, 0, 0, 0, [])]
set_option maxRecDepth 100000 in
theorem lL_law_645_ck : lL_law_645.all (ra_ck mL_law 13) = true := by decide +kernel
def nL_law_645 (N : Nat) (c18 : UInt32 → Nat → Nat → Int32 → ra_H → Option (Int32 × ra_H)) (a0 : UInt32) (a1 : Nat) (a2 : Nat) (a3 : Int32) (h : ra_H) : Option (Int32 × ra_H) :=
  (fX11_fault N a1 h).bind fun q1 =>
  (fX12_fault N a2 q1.2).bind fun q2 =>
  if q1.1 = q2.1 then
    nL_law_1935 N c18 a0 a1 a2 a3 q2.2
  else
    some ((0 : Int32), q2.2)
def kL_law_645 (N : Nat) (c18 : UInt32 → Nat → Nat → Int32 → ra_H → Option (Int32 × ra_H)) : Nat → List (Option Value) → List Value → ra_H → Option (Int32 × ra_H) := (ra_k1 1935 (fun L S h => match L, S with
  | [some (.float a0), some (.ref a1), some (.ref a2), some (.int a3)], [] => nL_law_1935 N c18 a0 a1 a2 a3 h
  | _, _ => none) ra_k0)
theorem kL_law_645_ok (N : Nat) (c18 : UInt32 → Nat → Nat → Int32 → ra_H → Option (Int32 × ra_H)) (hc18 : ∀ a0 a1 a2 a3 h r, c18 a0 a1 a2 a3 h = some r → ra_Ru 95 mL_law 18 [some (.float a0), some (.ref a1), some (.ref a2), some (.int a3)] [] h (ra_oI r)) : ra_kok 95 mL_law ra_oI (kL_law_645 N c18) := (ra_k1_ok (by
  intro L S h a e
  split at e
  · exact ra_Ru.weak (nL_law_1935_ok N c18 hc18 _ _ _ _ _ _ e) ⟨rfl, ⟨rfl, ⟨rfl, ⟨rfl, trivial⟩⟩⟩⟩
  · cases e) ra_k0_ok)
set_option maxRecDepth 100000 in
theorem nL_law_645_ok (N : Nat) (c18 : UInt32 → Nat → Nat → Int32 → ra_H → Option (Int32 × ra_H)) (hc18 : ∀ a0 a1 a2 a3 h r, c18 a0 a1 a2 a3 h = some r → ra_Ru 95 mL_law 18 [some (.float a0), some (.ref a1), some (.ref a2), some (.int a3)] [] h (ra_oI r)) (a0 : UInt32) (a1 : Nat) (a2 : Nat) (a3 : Int32) (h : ra_H) (r : (Int32 × ra_H)) (e : nL_law_645 N c18 a0 a1 a2 a3 h = some r) : ra_Ru 95 mL_law 645 [some (.float a0), some (.ref a1), some (.ref a2), some (.int a3)] [] h (ra_oI r) :=
  ra_sound (by omega) rfl ra_rI_ok (kL_law_645_ok N c18 hc18) (fun m av h h1 e => (tVL_law_ok N) m av h h1 e) (fun m av h x h1 e => (tIL_law_ok N) m av h (x, h1) e) (fun m av h x h1 e => (ra_c0_ok (ro := ra_oJ)) m av h (x, h1) e) (fun m av h x h1 e => (ra_c0_ok (ro := ra_oR)) m av h (x, h1) e) (fun m av h x h1 e => (ra_c0_ok (ro := ra_oN)) m av h (x, h1) e) (fun m av h x h1 e => (ra_c0_ok (ro := ra_oF)) m av h (x, h1) e) 8 lL_law_645 _ _ _ _ lL_law_645_ck (show ra_run ra_rI (kL_law_645 N c18) (tVL_law N) (tIL_law N) ra_c0 ra_c0 ra_c0 ra_c0 8 lL_law_645 [some (.float a0), some (.ref a1), some (.ref a2), some (.int a3)] [] h = some r from e) _ _ rfl
def lL_law_658 : List ra_I := [(658, .aload_n 1, 1, 1, 0, 0, 0, 0, []),
  (659, .aload_n 0, 1, 0, 0, 0, 0, 0, []),
  (660, .iload_n 3, 1, 3, 0, 0, 0, 0, []),
  (661, .iconst (1), 1, 0, 0, 0, (1), 0, []),
  (662, .iadd, 1, 0, 0, 0, 0, 0, []),
  (663, .iaload, 1, 0, 0, 0, 0, 0, []),
  (664, .aload_n 0, 1, 0, 0, 0, 0, 0, []),
  (665, .iload_n 3, 1, 3, 0, 0, 0, 0, []),
  (666, .iconst (2), 1, 0, 0, 0, (2), 0, []),
  (667, .iadd, 1, 0, 0, 0, 0, 0, []),
  (668, .iaload, 1, 0, 0, 0, 0, 0, []),
  (669, .aload_n 0, 1, 0, 0, 0, 0, 0, []),
  (670, .iload_n 3, 1, 3, 0, 0, 0, 0, []),
  (671, .iconst (3), 1, 0, 0, 0, (3), 0, []),
  (672, .iadd, 1, 0, 0, 0, 0, 0, []),
  (673, .iaload, 1, 0, 0, 0, 0, 0, []),
  (674, .invokevirtual 67, 3, 81, 4, 1, 0, 0, []),
  (677, .aload_n 2, 1, 2, 0, 0, 0, 0, []),
  (678, .aload_n 0, 1, 0, 0, 0, 0, 0, []),
  (679, .iload_n 3, 1, 3, 0, 0, 0, 0, []),
  (680, .iconst (1), 1, 0, 0, 0, (1), 0, []),
  (681, .iadd, 1, 0, 0, 0, 0, 0, []),
  (682, .iaload, 1, 0, 0, 0, 0, 0, []),
  (683, .aload_n 0, 1, 0, 0, 0, 0, 0, []),
  (684, .iload_n 3, 1, 3, 0, 0, 0, 0, []),
  (685, .iconst (2), 1, 0, 0, 0, (2), 0, []),
  (686, .iadd, 1, 0, 0, 0, 0, 0, []),
  (687, .iaload, 1, 0, 0, 0, 0, 0, []),
  (688, .aload_n 0, 1, 0, 0, 0, 0, 0, []),
  (689, .iload_n 3, 1, 3, 0, 0, 0, 0, []),
  (690, .iconst (3), 1, 0, 0, 0, (3), 0, []),
  (691, .iadd, 1, 0, 0, 0, 0, 0, []),
  (692, .iaload, 1, 0, 0, 0, 0, 0, []),
  (693, .invokevirtual 70, 3, 255, 4, 1, 0, 0, []),
  (696, .if_icmp .eq (1239), 3, 1935, 0, 0, 0, 0, []),
  (699, .iconst (0), 1, 0, 0, 0, (0), 0, []),
  (700, .ireturn, 1, 0, 0, 0, 0, 0, [])]
set_option maxRecDepth 100000 in
theorem lL_law_658_ck : lL_law_658.all (ra_ck mL_law 13) = true := by decide +kernel
def nL_law_658 (N : Nat) (c18 : UInt32 → Nat → Nat → Int32 → ra_H → Option (Int32 × ra_H)) (a0 : UInt32) (a1 : Nat) (a2 : Nat) (a3 : Int32) (h : ra_H) : Option (Int32 × ra_H) :=
  (ra_xI h a0 (a3 + ((1 : Int32)))).bind fun x1 =>
  (ra_xI h a0 (a3 + ((2 : Int32)))).bind fun x2 =>
  (ra_xI h a0 (a3 + ((3 : Int32)))).bind fun x3 =>
  (fX11_seat N a1 x1 x2 x3 h).bind fun q4 =>
  (ra_xI q4.2 a0 (a3 + ((1 : Int32)))).bind fun x5 =>
  (ra_xI q4.2 a0 (a3 + ((2 : Int32)))).bind fun x6 =>
  (ra_xI q4.2 a0 (a3 + ((3 : Int32)))).bind fun x7 =>
  (fX12_seat N a2 x5 x6 x7 q4.2).bind fun q8 =>
  if q4.1 = q8.1 then
    nL_law_1935 N c18 a0 a1 a2 a3 q8.2
  else
    some ((0 : Int32), q8.2)
def kL_law_658 (N : Nat) (c18 : UInt32 → Nat → Nat → Int32 → ra_H → Option (Int32 × ra_H)) : Nat → List (Option Value) → List Value → ra_H → Option (Int32 × ra_H) := (ra_k1 1935 (fun L S h => match L, S with
  | [some (.float a0), some (.ref a1), some (.ref a2), some (.int a3)], [] => nL_law_1935 N c18 a0 a1 a2 a3 h
  | _, _ => none) ra_k0)
theorem kL_law_658_ok (N : Nat) (c18 : UInt32 → Nat → Nat → Int32 → ra_H → Option (Int32 × ra_H)) (hc18 : ∀ a0 a1 a2 a3 h r, c18 a0 a1 a2 a3 h = some r → ra_Ru 95 mL_law 18 [some (.float a0), some (.ref a1), some (.ref a2), some (.int a3)] [] h (ra_oI r)) : ra_kok 95 mL_law ra_oI (kL_law_658 N c18) := (ra_k1_ok (by
  intro L S h a e
  split at e
  · exact ra_Ru.weak (nL_law_1935_ok N c18 hc18 _ _ _ _ _ _ e) ⟨rfl, ⟨rfl, ⟨rfl, ⟨rfl, trivial⟩⟩⟩⟩
  · cases e) ra_k0_ok)
set_option maxRecDepth 100000 in
theorem nL_law_658_ok (N : Nat) (c18 : UInt32 → Nat → Nat → Int32 → ra_H → Option (Int32 × ra_H)) (hc18 : ∀ a0 a1 a2 a3 h r, c18 a0 a1 a2 a3 h = some r → ra_Ru 95 mL_law 18 [some (.float a0), some (.ref a1), some (.ref a2), some (.int a3)] [] h (ra_oI r)) (a0 : UInt32) (a1 : Nat) (a2 : Nat) (a3 : Int32) (h : ra_H) (r : (Int32 × ra_H)) (e : nL_law_658 N c18 a0 a1 a2 a3 h = some r) : ra_Ru 95 mL_law 658 [some (.float a0), some (.ref a1), some (.ref a2), some (.int a3)] [] h (ra_oI r) :=
  ra_sound (by omega) rfl ra_rI_ok (kL_law_658_ok N c18 hc18) (fun m av h h1 e => (tVL_law_ok N) m av h h1 e) (fun m av h x h1 e => (tIL_law_ok N) m av h (x, h1) e) (fun m av h x h1 e => (ra_c0_ok (ro := ra_oJ)) m av h (x, h1) e) (fun m av h x h1 e => (ra_c0_ok (ro := ra_oR)) m av h (x, h1) e) (fun m av h x h1 e => (ra_c0_ok (ro := ra_oN)) m av h (x, h1) e) (fun m av h x h1 e => (ra_c0_ok (ro := ra_oF)) m av h (x, h1) e) 38 lL_law_658 _ _ _ _ lL_law_658_ck (show ra_run ra_rI (kL_law_658 N c18) (tVL_law N) (tIL_law N) ra_c0 ra_c0 ra_c0 ra_c0 38 lL_law_658 [some (.float a0), some (.ref a1), some (.ref a2), some (.int a3)] [] h = some r from e) _ _ rfl
def lL_law_701 : List ra_I := [(701, .aload_n 1, 1, 1, 0, 0, 0, 0, []),
  (702, .aload_n 0, 1, 0, 0, 0, 0, 0, []),
  (703, .iload_n 3, 1, 3, 0, 0, 0, 0, []),
  (704, .iconst (1), 1, 0, 0, 0, (1), 0, []),
  (705, .iadd, 1, 0, 0, 0, 0, 0, []),
  (706, .iaload, 1, 0, 0, 0, 0, 0, []),
  (707, .aload_n 0, 1, 0, 0, 0, 0, 0, []),
  (708, .iload_n 3, 1, 3, 0, 0, 0, 0, []),
  (709, .iconst (2), 1, 0, 0, 0, (2), 0, []),
  (710, .iadd, 1, 0, 0, 0, 0, 0, []),
  (711, .iaload, 1, 0, 0, 0, 0, 0, []),
  (712, .aload_n 0, 1, 0, 0, 0, 0, 0, []),
  (713, .iload_n 3, 1, 3, 0, 0, 0, 0, []),
  (714, .iconst (3), 1, 0, 0, 0, (3), 0, []),
  (715, .iadd, 1, 0, 0, 0, 0, 0, []),
  (716, .iaload, 1, 0, 0, 0, 0, 0, []),
  (717, .invokevirtual 71, 3, 91, 4, 1, 0, 0, []),
  (720, .aload_n 2, 1, 2, 0, 0, 0, 0, []),
  (721, .aload_n 0, 1, 0, 0, 0, 0, 0, []),
  (722, .iload_n 3, 1, 3, 0, 0, 0, 0, []),
  (723, .iconst (1), 1, 0, 0, 0, (1), 0, []),
  (724, .iadd, 1, 0, 0, 0, 0, 0, []),
  (725, .iaload, 1, 0, 0, 0, 0, 0, []),
  (726, .aload_n 0, 1, 0, 0, 0, 0, 0, []),
  (727, .iload_n 3, 1, 3, 0, 0, 0, 0, []),
  (728, .iconst (2), 1, 0, 0, 0, (2), 0, []),
  (729, .iadd, 1, 0, 0, 0, 0, 0, []),
  (730, .iaload, 1, 0, 0, 0, 0, 0, []),
  (731, .aload_n 0, 1, 0, 0, 0, 0, 0, []),
  (732, .iload_n 3, 1, 3, 0, 0, 0, 0, []),
  (733, .iconst (3), 1, 0, 0, 0, (3), 0, []),
  (734, .iadd, 1, 0, 0, 0, 0, 0, []),
  (735, .iaload, 1, 0, 0, 0, 0, 0, []),
  (736, .invokevirtual 74, 3, 263, 4, 1, 0, 0, []),
  (739, .if_icmp .eq (1196), 3, 1935, 0, 0, 0, 0, []),
  (742, .iconst (0), 1, 0, 0, 0, (0), 0, []),
  (743, .ireturn, 1, 0, 0, 0, 0, 0, [])]
set_option maxRecDepth 100000 in
theorem lL_law_701_ck : lL_law_701.all (ra_ck mL_law 13) = true := by decide +kernel
def nL_law_701 (N : Nat) (c18 : UInt32 → Nat → Nat → Int32 → ra_H → Option (Int32 × ra_H)) (a0 : UInt32) (a1 : Nat) (a2 : Nat) (a3 : Int32) (h : ra_H) : Option (Int32 × ra_H) :=
  (ra_xI h a0 (a3 + ((1 : Int32)))).bind fun x1 =>
  (ra_xI h a0 (a3 + ((2 : Int32)))).bind fun x2 =>
  (ra_xI h a0 (a3 + ((3 : Int32)))).bind fun x3 =>
  (fX11_stand N a1 x1 x2 x3 h).bind fun q4 =>
  (ra_xI q4.2 a0 (a3 + ((1 : Int32)))).bind fun x5 =>
  (ra_xI q4.2 a0 (a3 + ((2 : Int32)))).bind fun x6 =>
  (ra_xI q4.2 a0 (a3 + ((3 : Int32)))).bind fun x7 =>
  (fX12_stand N a2 x5 x6 x7 q4.2).bind fun q8 =>
  if q4.1 = q8.1 then
    nL_law_1935 N c18 a0 a1 a2 a3 q8.2
  else
    some ((0 : Int32), q8.2)
def kL_law_701 (N : Nat) (c18 : UInt32 → Nat → Nat → Int32 → ra_H → Option (Int32 × ra_H)) : Nat → List (Option Value) → List Value → ra_H → Option (Int32 × ra_H) := (ra_k1 1935 (fun L S h => match L, S with
  | [some (.float a0), some (.ref a1), some (.ref a2), some (.int a3)], [] => nL_law_1935 N c18 a0 a1 a2 a3 h
  | _, _ => none) ra_k0)
theorem kL_law_701_ok (N : Nat) (c18 : UInt32 → Nat → Nat → Int32 → ra_H → Option (Int32 × ra_H)) (hc18 : ∀ a0 a1 a2 a3 h r, c18 a0 a1 a2 a3 h = some r → ra_Ru 95 mL_law 18 [some (.float a0), some (.ref a1), some (.ref a2), some (.int a3)] [] h (ra_oI r)) : ra_kok 95 mL_law ra_oI (kL_law_701 N c18) := (ra_k1_ok (by
  intro L S h a e
  split at e
  · exact ra_Ru.weak (nL_law_1935_ok N c18 hc18 _ _ _ _ _ _ e) ⟨rfl, ⟨rfl, ⟨rfl, ⟨rfl, trivial⟩⟩⟩⟩
  · cases e) ra_k0_ok)
set_option maxRecDepth 100000 in
theorem nL_law_701_ok (N : Nat) (c18 : UInt32 → Nat → Nat → Int32 → ra_H → Option (Int32 × ra_H)) (hc18 : ∀ a0 a1 a2 a3 h r, c18 a0 a1 a2 a3 h = some r → ra_Ru 95 mL_law 18 [some (.float a0), some (.ref a1), some (.ref a2), some (.int a3)] [] h (ra_oI r)) (a0 : UInt32) (a1 : Nat) (a2 : Nat) (a3 : Int32) (h : ra_H) (r : (Int32 × ra_H)) (e : nL_law_701 N c18 a0 a1 a2 a3 h = some r) : ra_Ru 95 mL_law 701 [some (.float a0), some (.ref a1), some (.ref a2), some (.int a3)] [] h (ra_oI r) :=
  ra_sound (by omega) rfl ra_rI_ok (kL_law_701_ok N c18 hc18) (fun m av h h1 e => (tVL_law_ok N) m av h h1 e) (fun m av h x h1 e => (tIL_law_ok N) m av h (x, h1) e) (fun m av h x h1 e => (ra_c0_ok (ro := ra_oJ)) m av h (x, h1) e) (fun m av h x h1 e => (ra_c0_ok (ro := ra_oR)) m av h (x, h1) e) (fun m av h x h1 e => (ra_c0_ok (ro := ra_oN)) m av h (x, h1) e) (fun m av h x h1 e => (ra_c0_ok (ro := ra_oF)) m av h (x, h1) e) 38 lL_law_701 _ _ _ _ lL_law_701_ck (show ra_run ra_rI (kL_law_701 N c18) (tVL_law N) (tIL_law N) ra_c0 ra_c0 ra_c0 ra_c0 38 lL_law_701 [some (.float a0), some (.ref a1), some (.ref a2), some (.int a3)] [] h = some r from e) _ _ rfl
def lL_law_744 : List ra_I := [(744, .aload_n 1, 1, 1, 0, 0, 0, 0, []),
  (745, .aload_n 0, 1, 0, 0, 0, 0, 0, []),
  (746, .iload_n 3, 1, 3, 0, 0, 0, 0, []),
  (747, .iconst (1), 1, 0, 0, 0, (1), 0, []),
  (748, .iadd, 1, 0, 0, 0, 0, 0, []),
  (749, .iaload, 1, 0, 0, 0, 0, 0, []),
  (750, .invokevirtual 75, 3, 96, 2, 1, 0, 0, []),
  (753, .aload_n 2, 1, 2, 0, 0, 0, 0, []),
  (754, .aload_n 0, 1, 0, 0, 0, 0, 0, []),
  (755, .iload_n 3, 1, 3, 0, 0, 0, 0, []),
  (756, .iconst (1), 1, 0, 0, 0, (1), 0, []),
  (757, .iadd, 1, 0, 0, 0, 0, 0, []),
  (758, .iaload, 1, 0, 0, 0, 0, 0, []),
  (759, .invokevirtual 78, 3, 266, 2, 1, 0, 0, []),
  (762, .if_icmp .eq (1173), 3, 1935, 0, 0, 0, 0, []),
  (765, .iconst (0), 1, 0, 0, 0, (0), 0, []),
  (766, .ireturn, 1, 0, 0, 0, 0, 0, [])]
set_option maxRecDepth 100000 in
theorem lL_law_744_ck : lL_law_744.all (ra_ck mL_law 13) = true := by decide +kernel
def nL_law_744 (N : Nat) (c18 : UInt32 → Nat → Nat → Int32 → ra_H → Option (Int32 × ra_H)) (a0 : UInt32) (a1 : Nat) (a2 : Nat) (a3 : Int32) (h : ra_H) : Option (Int32 × ra_H) :=
  (ra_xI h a0 (a3 + ((1 : Int32)))).bind fun x1 =>
  (fX11_best N a1 x1 h).bind fun q2 =>
  (ra_xI q2.2 a0 (a3 + ((1 : Int32)))).bind fun x3 =>
  (fX12_best N a2 x3 q2.2).bind fun q4 =>
  if q2.1 = q4.1 then
    nL_law_1935 N c18 a0 a1 a2 a3 q4.2
  else
    some ((0 : Int32), q4.2)
def kL_law_744 (N : Nat) (c18 : UInt32 → Nat → Nat → Int32 → ra_H → Option (Int32 × ra_H)) : Nat → List (Option Value) → List Value → ra_H → Option (Int32 × ra_H) := (ra_k1 1935 (fun L S h => match L, S with
  | [some (.float a0), some (.ref a1), some (.ref a2), some (.int a3)], [] => nL_law_1935 N c18 a0 a1 a2 a3 h
  | _, _ => none) ra_k0)
theorem kL_law_744_ok (N : Nat) (c18 : UInt32 → Nat → Nat → Int32 → ra_H → Option (Int32 × ra_H)) (hc18 : ∀ a0 a1 a2 a3 h r, c18 a0 a1 a2 a3 h = some r → ra_Ru 95 mL_law 18 [some (.float a0), some (.ref a1), some (.ref a2), some (.int a3)] [] h (ra_oI r)) : ra_kok 95 mL_law ra_oI (kL_law_744 N c18) := (ra_k1_ok (by
  intro L S h a e
  split at e
  · exact ra_Ru.weak (nL_law_1935_ok N c18 hc18 _ _ _ _ _ _ e) ⟨rfl, ⟨rfl, ⟨rfl, ⟨rfl, trivial⟩⟩⟩⟩
  · cases e) ra_k0_ok)
set_option maxRecDepth 100000 in
theorem nL_law_744_ok (N : Nat) (c18 : UInt32 → Nat → Nat → Int32 → ra_H → Option (Int32 × ra_H)) (hc18 : ∀ a0 a1 a2 a3 h r, c18 a0 a1 a2 a3 h = some r → ra_Ru 95 mL_law 18 [some (.float a0), some (.ref a1), some (.ref a2), some (.int a3)] [] h (ra_oI r)) (a0 : UInt32) (a1 : Nat) (a2 : Nat) (a3 : Int32) (h : ra_H) (r : (Int32 × ra_H)) (e : nL_law_744 N c18 a0 a1 a2 a3 h = some r) : ra_Ru 95 mL_law 744 [some (.float a0), some (.ref a1), some (.ref a2), some (.int a3)] [] h (ra_oI r) :=
  ra_sound (by omega) rfl ra_rI_ok (kL_law_744_ok N c18 hc18) (fun m av h h1 e => (tVL_law_ok N) m av h h1 e) (fun m av h x h1 e => (tIL_law_ok N) m av h (x, h1) e) (fun m av h x h1 e => (ra_c0_ok (ro := ra_oJ)) m av h (x, h1) e) (fun m av h x h1 e => (ra_c0_ok (ro := ra_oR)) m av h (x, h1) e) (fun m av h x h1 e => (ra_c0_ok (ro := ra_oN)) m av h (x, h1) e) (fun m av h x h1 e => (ra_c0_ok (ro := ra_oF)) m av h (x, h1) e) 18 lL_law_744 _ _ _ _ lL_law_744_ck (show ra_run ra_rI (kL_law_744 N c18) (tVL_law N) (tIL_law N) ra_c0 ra_c0 ra_c0 ra_c0 18 lL_law_744 [some (.float a0), some (.ref a1), some (.ref a2), some (.int a3)] [] h = some r from e) _ _ rfl
def lL_law_767 : List ra_I := [(767, .aload_n 1, 1, 1, 0, 0, 0, 0, []),
  (768, .aload_n 0, 1, 0, 0, 0, 0, 0, []),
  (769, .iload_n 3, 1, 3, 0, 0, 0, 0, []),
  (770, .iconst (1), 1, 0, 0, 0, (1), 0, []),
  (771, .iadd, 1, 0, 0, 0, 0, 0, []),
  (772, .iaload, 1, 0, 0, 0, 0, 0, []),
  (773, .aload_n 0, 1, 0, 0, 0, 0, 0, []),
  (774, .iload_n 3, 1, 3, 0, 0, 0, 0, []),
  (775, .iconst (2), 1, 0, 0, 0, (2), 0, []),
  (776, .iadd, 1, 0, 0, 0, 0, 0, []),
  (777, .iaload, 1, 0, 0, 0, 0, 0, []),
  (778, .aload_n 0, 1, 0, 0, 0, 0, 0, []),
  (779, .iload_n 3, 1, 3, 0, 0, 0, 0, []),
  (780, .iconst (3), 1, 0, 0, 0, (3), 0, []),
  (781, .iadd, 1, 0, 0, 0, 0, 0, []),
  (782, .iaload, 1, 0, 0, 0, 0, 0, []),
  (783, .invokevirtual 79, 3, 104, 4, 1, 0, 0, []),
  (786, .aload_n 2, 1, 2, 0, 0, 0, 0, []),
  (787, .aload_n 0, 1, 0, 0, 0, 0, 0, []),
  (788, .iload_n 3, 1, 3, 0, 0, 0, 0, []),
  (789, .iconst (1), 1, 0, 0, 0, (1), 0, []),
  (790, .iadd, 1, 0, 0, 0, 0, 0, []),
  (791, .iaload, 1, 0, 0, 0, 0, 0, []),
  (792, .aload_n 0, 1, 0, 0, 0, 0, 0, []),
  (793, .iload_n 3, 1, 3, 0, 0, 0, 0, []),
  (794, .iconst (2), 1, 0, 0, 0, (2), 0, []),
  (795, .iadd, 1, 0, 0, 0, 0, 0, []),
  (796, .iaload, 1, 0, 0, 0, 0, 0, []),
  (797, .aload_n 0, 1, 0, 0, 0, 0, 0, []),
  (798, .iload_n 3, 1, 3, 0, 0, 0, 0, []),
  (799, .iconst (3), 1, 0, 0, 0, (3), 0, []),
  (800, .iadd, 1, 0, 0, 0, 0, 0, []),
  (801, .iaload, 1, 0, 0, 0, 0, 0, []),
  (802, .invokevirtual 82, 3, 267, 4, 1, 0, 0, []),
  (805, .if_icmp .eq (1130), 3, 1935, 0, 0, 0, 0, []),
  (808, .iconst (0), 1, 0, 0, 0, (0), 0, []),
  (809, .ireturn, 1, 0, 0, 0, 0, 0, [])]
set_option maxRecDepth 100000 in
theorem lL_law_767_ck : lL_law_767.all (ra_ck mL_law 13) = true := by decide +kernel
def nL_law_767 (N : Nat) (c18 : UInt32 → Nat → Nat → Int32 → ra_H → Option (Int32 × ra_H)) (a0 : UInt32) (a1 : Nat) (a2 : Nat) (a3 : Int32) (h : ra_H) : Option (Int32 × ra_H) :=
  (ra_xI h a0 (a3 + ((1 : Int32)))).bind fun x1 =>
  (ra_xI h a0 (a3 + ((2 : Int32)))).bind fun x2 =>
  (ra_xI h a0 (a3 + ((3 : Int32)))).bind fun x3 =>
  (fX11_keep N a1 x1 x2 x3 h).bind fun q4 =>
  (ra_xI q4.2 a0 (a3 + ((1 : Int32)))).bind fun x5 =>
  (ra_xI q4.2 a0 (a3 + ((2 : Int32)))).bind fun x6 =>
  (ra_xI q4.2 a0 (a3 + ((3 : Int32)))).bind fun x7 =>
  (fX12_keep N a2 x5 x6 x7 q4.2).bind fun q8 =>
  if q4.1 = q8.1 then
    nL_law_1935 N c18 a0 a1 a2 a3 q8.2
  else
    some ((0 : Int32), q8.2)
def kL_law_767 (N : Nat) (c18 : UInt32 → Nat → Nat → Int32 → ra_H → Option (Int32 × ra_H)) : Nat → List (Option Value) → List Value → ra_H → Option (Int32 × ra_H) := (ra_k1 1935 (fun L S h => match L, S with
  | [some (.float a0), some (.ref a1), some (.ref a2), some (.int a3)], [] => nL_law_1935 N c18 a0 a1 a2 a3 h
  | _, _ => none) ra_k0)
theorem kL_law_767_ok (N : Nat) (c18 : UInt32 → Nat → Nat → Int32 → ra_H → Option (Int32 × ra_H)) (hc18 : ∀ a0 a1 a2 a3 h r, c18 a0 a1 a2 a3 h = some r → ra_Ru 95 mL_law 18 [some (.float a0), some (.ref a1), some (.ref a2), some (.int a3)] [] h (ra_oI r)) : ra_kok 95 mL_law ra_oI (kL_law_767 N c18) := (ra_k1_ok (by
  intro L S h a e
  split at e
  · exact ra_Ru.weak (nL_law_1935_ok N c18 hc18 _ _ _ _ _ _ e) ⟨rfl, ⟨rfl, ⟨rfl, ⟨rfl, trivial⟩⟩⟩⟩
  · cases e) ra_k0_ok)
set_option maxRecDepth 100000 in
theorem nL_law_767_ok (N : Nat) (c18 : UInt32 → Nat → Nat → Int32 → ra_H → Option (Int32 × ra_H)) (hc18 : ∀ a0 a1 a2 a3 h r, c18 a0 a1 a2 a3 h = some r → ra_Ru 95 mL_law 18 [some (.float a0), some (.ref a1), some (.ref a2), some (.int a3)] [] h (ra_oI r)) (a0 : UInt32) (a1 : Nat) (a2 : Nat) (a3 : Int32) (h : ra_H) (r : (Int32 × ra_H)) (e : nL_law_767 N c18 a0 a1 a2 a3 h = some r) : ra_Ru 95 mL_law 767 [some (.float a0), some (.ref a1), some (.ref a2), some (.int a3)] [] h (ra_oI r) :=
  ra_sound (by omega) rfl ra_rI_ok (kL_law_767_ok N c18 hc18) (fun m av h h1 e => (tVL_law_ok N) m av h h1 e) (fun m av h x h1 e => (tIL_law_ok N) m av h (x, h1) e) (fun m av h x h1 e => (ra_c0_ok (ro := ra_oJ)) m av h (x, h1) e) (fun m av h x h1 e => (ra_c0_ok (ro := ra_oR)) m av h (x, h1) e) (fun m av h x h1 e => (ra_c0_ok (ro := ra_oN)) m av h (x, h1) e) (fun m av h x h1 e => (ra_c0_ok (ro := ra_oF)) m av h (x, h1) e) 38 lL_law_767 _ _ _ _ lL_law_767_ck (show ra_run ra_rI (kL_law_767 N c18) (tVL_law N) (tIL_law N) ra_c0 ra_c0 ra_c0 ra_c0 38 lL_law_767 [some (.float a0), some (.ref a1), some (.ref a2), some (.int a3)] [] h = some r from e) _ _ rfl
def lL_law_810 : List ra_I := [(810, .aload_n 1, 1, 1, 0, 0, 0, 0, []),
  (811, .aload_n 0, 1, 0, 0, 0, 0, 0, []),
  (812, .iload_n 3, 1, 3, 0, 0, 0, 0, []),
  (813, .iconst (1), 1, 0, 0, 0, (1), 0, []),
  (814, .iadd, 1, 0, 0, 0, 0, 0, []),
  (815, .iaload, 1, 0, 0, 0, 0, 0, []),
  (816, .invokevirtual 83, 3, 106, 2, 1, 0, 0, []),
  (819, .aload_n 2, 1, 2, 0, 0, 0, 0, []),
  (820, .aload_n 0, 1, 0, 0, 0, 0, 0, []),
  (821, .iload_n 3, 1, 3, 0, 0, 0, 0, []),
  (822, .iconst (1), 1, 0, 0, 0, (1), 0, []),
  (823, .iadd, 1, 0, 0, 0, 0, 0, []),
  (824, .iaload, 1, 0, 0, 0, 0, 0, []),
  (825, .invokevirtual 86, 3, 268, 2, 1, 0, 0, []),
  (828, .if_icmp .eq (1107), 3, 1935, 0, 0, 0, 0, []),
  (831, .iconst (0), 1, 0, 0, 0, (0), 0, []),
  (832, .ireturn, 1, 0, 0, 0, 0, 0, [])]
set_option maxRecDepth 100000 in
theorem lL_law_810_ck : lL_law_810.all (ra_ck mL_law 13) = true := by decide +kernel
def nL_law_810 (N : Nat) (c18 : UInt32 → Nat → Nat → Int32 → ra_H → Option (Int32 × ra_H)) (a0 : UInt32) (a1 : Nat) (a2 : Nat) (a3 : Int32) (h : ra_H) : Option (Int32 × ra_H) :=
  (ra_xI h a0 (a3 + ((1 : Int32)))).bind fun x1 =>
  (fX11_how N a1 x1 h).bind fun q2 =>
  (ra_xI q2.2 a0 (a3 + ((1 : Int32)))).bind fun x3 =>
  (fX12_how N a2 x3 q2.2).bind fun q4 =>
  if q2.1 = q4.1 then
    nL_law_1935 N c18 a0 a1 a2 a3 q4.2
  else
    some ((0 : Int32), q4.2)
def kL_law_810 (N : Nat) (c18 : UInt32 → Nat → Nat → Int32 → ra_H → Option (Int32 × ra_H)) : Nat → List (Option Value) → List Value → ra_H → Option (Int32 × ra_H) := (ra_k1 1935 (fun L S h => match L, S with
  | [some (.float a0), some (.ref a1), some (.ref a2), some (.int a3)], [] => nL_law_1935 N c18 a0 a1 a2 a3 h
  | _, _ => none) ra_k0)
theorem kL_law_810_ok (N : Nat) (c18 : UInt32 → Nat → Nat → Int32 → ra_H → Option (Int32 × ra_H)) (hc18 : ∀ a0 a1 a2 a3 h r, c18 a0 a1 a2 a3 h = some r → ra_Ru 95 mL_law 18 [some (.float a0), some (.ref a1), some (.ref a2), some (.int a3)] [] h (ra_oI r)) : ra_kok 95 mL_law ra_oI (kL_law_810 N c18) := (ra_k1_ok (by
  intro L S h a e
  split at e
  · exact ra_Ru.weak (nL_law_1935_ok N c18 hc18 _ _ _ _ _ _ e) ⟨rfl, ⟨rfl, ⟨rfl, ⟨rfl, trivial⟩⟩⟩⟩
  · cases e) ra_k0_ok)
set_option maxRecDepth 100000 in
theorem nL_law_810_ok (N : Nat) (c18 : UInt32 → Nat → Nat → Int32 → ra_H → Option (Int32 × ra_H)) (hc18 : ∀ a0 a1 a2 a3 h r, c18 a0 a1 a2 a3 h = some r → ra_Ru 95 mL_law 18 [some (.float a0), some (.ref a1), some (.ref a2), some (.int a3)] [] h (ra_oI r)) (a0 : UInt32) (a1 : Nat) (a2 : Nat) (a3 : Int32) (h : ra_H) (r : (Int32 × ra_H)) (e : nL_law_810 N c18 a0 a1 a2 a3 h = some r) : ra_Ru 95 mL_law 810 [some (.float a0), some (.ref a1), some (.ref a2), some (.int a3)] [] h (ra_oI r) :=
  ra_sound (by omega) rfl ra_rI_ok (kL_law_810_ok N c18 hc18) (fun m av h h1 e => (tVL_law_ok N) m av h h1 e) (fun m av h x h1 e => (tIL_law_ok N) m av h (x, h1) e) (fun m av h x h1 e => (ra_c0_ok (ro := ra_oJ)) m av h (x, h1) e) (fun m av h x h1 e => (ra_c0_ok (ro := ra_oR)) m av h (x, h1) e) (fun m av h x h1 e => (ra_c0_ok (ro := ra_oN)) m av h (x, h1) e) (fun m av h x h1 e => (ra_c0_ok (ro := ra_oF)) m av h (x, h1) e) 18 lL_law_810 _ _ _ _ lL_law_810_ck (show ra_run ra_rI (kL_law_810 N c18) (tVL_law N) (tIL_law N) ra_c0 ra_c0 ra_c0 ra_c0 18 lL_law_810 [some (.float a0), some (.ref a1), some (.ref a2), some (.int a3)] [] h = some r from e) _ _ rfl
def lL_law_833 : List ra_I := [(833, .aload_n 1, 1, 1, 0, 0, 0, 0, []),
  (834, .aload_n 0, 1, 0, 0, 0, 0, 0, []),
  (835, .iload_n 3, 1, 3, 0, 0, 0, 0, []),
  (836, .iconst (1), 1, 0, 0, 0, (1), 0, []),
  (837, .iadd, 1, 0, 0, 0, 0, 0, []),
  (838, .iaload, 1, 0, 0, 0, 0, 0, []),
  (839, .aload_n 0, 1, 0, 0, 0, 0, 0, []),
  (840, .iload_n 3, 1, 3, 0, 0, 0, 0, []),
  (841, .iconst (2), 1, 0, 0, 0, (2), 0, []),
  (842, .iadd, 1, 0, 0, 0, 0, 0, []),
  (843, .iaload, 1, 0, 0, 0, 0, 0, []),
  (844, .aload_n 0, 1, 0, 0, 0, 0, 0, []),
  (845, .iload_n 3, 1, 3, 0, 0, 0, 0, []),
  (846, .iconst (3), 1, 0, 0, 0, (3), 0, []),
  (847, .iadd, 1, 0, 0, 0, 0, 0, []),
  (848, .iaload, 1, 0, 0, 0, 0, 0, []),
  (849, .invokevirtual 87, 3, 107, 4, 1, 0, 0, []),
  (852, .aload_n 2, 1, 2, 0, 0, 0, 0, []),
  (853, .aload_n 0, 1, 0, 0, 0, 0, 0, []),
  (854, .iload_n 3, 1, 3, 0, 0, 0, 0, []),
  (855, .iconst (1), 1, 0, 0, 0, (1), 0, []),
  (856, .iadd, 1, 0, 0, 0, 0, 0, []),
  (857, .iaload, 1, 0, 0, 0, 0, 0, []),
  (858, .aload_n 0, 1, 0, 0, 0, 0, 0, []),
  (859, .iload_n 3, 1, 3, 0, 0, 0, 0, []),
  (860, .iconst (2), 1, 0, 0, 0, (2), 0, []),
  (861, .iadd, 1, 0, 0, 0, 0, 0, []),
  (862, .iaload, 1, 0, 0, 0, 0, 0, []),
  (863, .aload_n 0, 1, 0, 0, 0, 0, 0, []),
  (864, .iload_n 3, 1, 3, 0, 0, 0, 0, []),
  (865, .iconst (3), 1, 0, 0, 0, (3), 0, []),
  (866, .iadd, 1, 0, 0, 0, 0, 0, []),
  (867, .iaload, 1, 0, 0, 0, 0, 0, []),
  (868, .invokevirtual 90, 3, 270, 4, 1, 0, 0, []),
  (871, .if_icmp .eq (1064), 3, 1935, 0, 0, 0, 0, []),
  (874, .iconst (0), 1, 0, 0, 0, (0), 0, []),
  (875, .ireturn, 1, 0, 0, 0, 0, 0, [])]
set_option maxRecDepth 100000 in
theorem lL_law_833_ck : lL_law_833.all (ra_ck mL_law 13) = true := by decide +kernel
def nL_law_833 (N : Nat) (c18 : UInt32 → Nat → Nat → Int32 → ra_H → Option (Int32 × ra_H)) (a0 : UInt32) (a1 : Nat) (a2 : Nat) (a3 : Int32) (h : ra_H) : Option (Int32 × ra_H) :=
  (ra_xI h a0 (a3 + ((1 : Int32)))).bind fun x1 =>
  (ra_xI h a0 (a3 + ((2 : Int32)))).bind fun x2 =>
  (ra_xI h a0 (a3 + ((3 : Int32)))).bind fun x3 =>
  (fX11_on N a1 x1 x2 x3 h).bind fun q4 =>
  (ra_xI q4.2 a0 (a3 + ((1 : Int32)))).bind fun x5 =>
  (ra_xI q4.2 a0 (a3 + ((2 : Int32)))).bind fun x6 =>
  (ra_xI q4.2 a0 (a3 + ((3 : Int32)))).bind fun x7 =>
  (fX12_on N a2 x5 x6 x7 q4.2).bind fun q8 =>
  if q4.1 = q8.1 then
    nL_law_1935 N c18 a0 a1 a2 a3 q8.2
  else
    some ((0 : Int32), q8.2)
def kL_law_833 (N : Nat) (c18 : UInt32 → Nat → Nat → Int32 → ra_H → Option (Int32 × ra_H)) : Nat → List (Option Value) → List Value → ra_H → Option (Int32 × ra_H) := (ra_k1 1935 (fun L S h => match L, S with
  | [some (.float a0), some (.ref a1), some (.ref a2), some (.int a3)], [] => nL_law_1935 N c18 a0 a1 a2 a3 h
  | _, _ => none) ra_k0)
theorem kL_law_833_ok (N : Nat) (c18 : UInt32 → Nat → Nat → Int32 → ra_H → Option (Int32 × ra_H)) (hc18 : ∀ a0 a1 a2 a3 h r, c18 a0 a1 a2 a3 h = some r → ra_Ru 95 mL_law 18 [some (.float a0), some (.ref a1), some (.ref a2), some (.int a3)] [] h (ra_oI r)) : ra_kok 95 mL_law ra_oI (kL_law_833 N c18) := (ra_k1_ok (by
  intro L S h a e
  split at e
  · exact ra_Ru.weak (nL_law_1935_ok N c18 hc18 _ _ _ _ _ _ e) ⟨rfl, ⟨rfl, ⟨rfl, ⟨rfl, trivial⟩⟩⟩⟩
  · cases e) ra_k0_ok)
set_option maxRecDepth 100000 in
theorem nL_law_833_ok (N : Nat) (c18 : UInt32 → Nat → Nat → Int32 → ra_H → Option (Int32 × ra_H)) (hc18 : ∀ a0 a1 a2 a3 h r, c18 a0 a1 a2 a3 h = some r → ra_Ru 95 mL_law 18 [some (.float a0), some (.ref a1), some (.ref a2), some (.int a3)] [] h (ra_oI r)) (a0 : UInt32) (a1 : Nat) (a2 : Nat) (a3 : Int32) (h : ra_H) (r : (Int32 × ra_H)) (e : nL_law_833 N c18 a0 a1 a2 a3 h = some r) : ra_Ru 95 mL_law 833 [some (.float a0), some (.ref a1), some (.ref a2), some (.int a3)] [] h (ra_oI r) :=
  ra_sound (by omega) rfl ra_rI_ok (kL_law_833_ok N c18 hc18) (fun m av h h1 e => (tVL_law_ok N) m av h h1 e) (fun m av h x h1 e => (tIL_law_ok N) m av h (x, h1) e) (fun m av h x h1 e => (ra_c0_ok (ro := ra_oJ)) m av h (x, h1) e) (fun m av h x h1 e => (ra_c0_ok (ro := ra_oR)) m av h (x, h1) e) (fun m av h x h1 e => (ra_c0_ok (ro := ra_oN)) m av h (x, h1) e) (fun m av h x h1 e => (ra_c0_ok (ro := ra_oF)) m av h (x, h1) e) 38 lL_law_833 _ _ _ _ lL_law_833_ck (show ra_run ra_rI (kL_law_833 N c18) (tVL_law N) (tIL_law N) ra_c0 ra_c0 ra_c0 ra_c0 38 lL_law_833 [some (.float a0), some (.ref a1), some (.ref a2), some (.int a3)] [] h = some r from e) _ _ rfl
def lL_law_876 : List ra_I := [(876, .aload_n 1, 1, 1, 0, 0, 0, 0, []),
  (877, .aload_n 0, 1, 0, 0, 0, 0, 0, []),
  (878, .iload_n 3, 1, 3, 0, 0, 0, 0, []),
  (879, .iconst (1), 1, 0, 0, 0, (1), 0, []),
  (880, .iadd, 1, 0, 0, 0, 0, 0, []),
  (881, .iaload, 1, 0, 0, 0, 0, 0, []),
  (882, .aload_n 0, 1, 0, 0, 0, 0, 0, []),
  (883, .iload_n 3, 1, 3, 0, 0, 0, 0, []),
  (884, .iconst (2), 1, 0, 0, 0, (2), 0, []),
  (885, .iadd, 1, 0, 0, 0, 0, 0, []),
  (886, .iaload, 1, 0, 0, 0, 0, 0, []),
  (887, .invokevirtual 91, 3, 111, 3, 1, 0, 0, []),
  (890, .aload_n 2, 1, 2, 0, 0, 0, 0, []),
  (891, .aload_n 0, 1, 0, 0, 0, 0, 0, []),
  (892, .iload_n 3, 1, 3, 0, 0, 0, 0, []),
  (893, .iconst (1), 1, 0, 0, 0, (1), 0, []),
  (894, .iadd, 1, 0, 0, 0, 0, 0, []),
  (895, .iaload, 1, 0, 0, 0, 0, 0, []),
  (896, .aload_n 0, 1, 0, 0, 0, 0, 0, []),
  (897, .iload_n 3, 1, 3, 0, 0, 0, 0, []),
  (898, .iconst (2), 1, 0, 0, 0, (2), 0, []),
  (899, .iadd, 1, 0, 0, 0, 0, 0, []),
  (900, .iaload, 1, 0, 0, 0, 0, 0, []),
  (901, .invokevirtual 94, 3, 272, 3, 1, 0, 0, []),
  (904, .if_icmp .eq (1031), 3, 1935, 0, 0, 0, 0, []),
  (907, .iconst (0), 1, 0, 0, 0, (0), 0, []),
  (908, .ireturn, 1, 0, 0, 0, 0, 0, [])]
set_option maxRecDepth 100000 in
theorem lL_law_876_ck : lL_law_876.all (ra_ck mL_law 13) = true := by decide +kernel
def nL_law_876 (N : Nat) (c18 : UInt32 → Nat → Nat → Int32 → ra_H → Option (Int32 × ra_H)) (a0 : UInt32) (a1 : Nat) (a2 : Nat) (a3 : Int32) (h : ra_H) : Option (Int32 × ra_H) :=
  (ra_xI h a0 (a3 + ((1 : Int32)))).bind fun x1 =>
  (ra_xI h a0 (a3 + ((2 : Int32)))).bind fun x2 =>
  (fX11_free N a1 x1 x2 h).bind fun q3 =>
  (ra_xI q3.2 a0 (a3 + ((1 : Int32)))).bind fun x4 =>
  (ra_xI q3.2 a0 (a3 + ((2 : Int32)))).bind fun x5 =>
  (fX12_free N a2 x4 x5 q3.2).bind fun q6 =>
  if q3.1 = q6.1 then
    nL_law_1935 N c18 a0 a1 a2 a3 q6.2
  else
    some ((0 : Int32), q6.2)
def kL_law_876 (N : Nat) (c18 : UInt32 → Nat → Nat → Int32 → ra_H → Option (Int32 × ra_H)) : Nat → List (Option Value) → List Value → ra_H → Option (Int32 × ra_H) := (ra_k1 1935 (fun L S h => match L, S with
  | [some (.float a0), some (.ref a1), some (.ref a2), some (.int a3)], [] => nL_law_1935 N c18 a0 a1 a2 a3 h
  | _, _ => none) ra_k0)
theorem kL_law_876_ok (N : Nat) (c18 : UInt32 → Nat → Nat → Int32 → ra_H → Option (Int32 × ra_H)) (hc18 : ∀ a0 a1 a2 a3 h r, c18 a0 a1 a2 a3 h = some r → ra_Ru 95 mL_law 18 [some (.float a0), some (.ref a1), some (.ref a2), some (.int a3)] [] h (ra_oI r)) : ra_kok 95 mL_law ra_oI (kL_law_876 N c18) := (ra_k1_ok (by
  intro L S h a e
  split at e
  · exact ra_Ru.weak (nL_law_1935_ok N c18 hc18 _ _ _ _ _ _ e) ⟨rfl, ⟨rfl, ⟨rfl, ⟨rfl, trivial⟩⟩⟩⟩
  · cases e) ra_k0_ok)
set_option maxRecDepth 100000 in
theorem nL_law_876_ok (N : Nat) (c18 : UInt32 → Nat → Nat → Int32 → ra_H → Option (Int32 × ra_H)) (hc18 : ∀ a0 a1 a2 a3 h r, c18 a0 a1 a2 a3 h = some r → ra_Ru 95 mL_law 18 [some (.float a0), some (.ref a1), some (.ref a2), some (.int a3)] [] h (ra_oI r)) (a0 : UInt32) (a1 : Nat) (a2 : Nat) (a3 : Int32) (h : ra_H) (r : (Int32 × ra_H)) (e : nL_law_876 N c18 a0 a1 a2 a3 h = some r) : ra_Ru 95 mL_law 876 [some (.float a0), some (.ref a1), some (.ref a2), some (.int a3)] [] h (ra_oI r) :=
  ra_sound (by omega) rfl ra_rI_ok (kL_law_876_ok N c18 hc18) (fun m av h h1 e => (tVL_law_ok N) m av h h1 e) (fun m av h x h1 e => (tIL_law_ok N) m av h (x, h1) e) (fun m av h x h1 e => (ra_c0_ok (ro := ra_oJ)) m av h (x, h1) e) (fun m av h x h1 e => (ra_c0_ok (ro := ra_oR)) m av h (x, h1) e) (fun m av h x h1 e => (ra_c0_ok (ro := ra_oN)) m av h (x, h1) e) (fun m av h x h1 e => (ra_c0_ok (ro := ra_oF)) m av h (x, h1) e) 28 lL_law_876 _ _ _ _ lL_law_876_ck (show ra_run ra_rI (kL_law_876 N c18) (tVL_law N) (tIL_law N) ra_c0 ra_c0 ra_c0 ra_c0 28 lL_law_876 [some (.float a0), some (.ref a1), some (.ref a2), some (.int a3)] [] h = some r from e) _ _ rfl
def lL_law_909 : List ra_I := [(909, .aload_n 1, 1, 1, 0, 0, 0, 0, []),
  (910, .aload_n 0, 1, 0, 0, 0, 0, 0, []),
  (911, .iload_n 3, 1, 3, 0, 0, 0, 0, []),
  (912, .iconst (1), 1, 0, 0, 0, (1), 0, []),
  (913, .iadd, 1, 0, 0, 0, 0, 0, []),
  (914, .iaload, 1, 0, 0, 0, 0, 0, []),
  (915, .aload_n 0, 1, 0, 0, 0, 0, 0, []),
  (916, .iload_n 3, 1, 3, 0, 0, 0, 0, []),
  (917, .iconst (2), 1, 0, 0, 0, (2), 0, []),
  (918, .iadd, 1, 0, 0, 0, 0, 0, []),
  (919, .iaload, 1, 0, 0, 0, 0, 0, []),
  (920, .aload_n 0, 1, 0, 0, 0, 0, 0, []),
  (921, .iload_n 3, 1, 3, 0, 0, 0, 0, []),
  (922, .iconst (3), 1, 0, 0, 0, (3), 0, []),
  (923, .iadd, 1, 0, 0, 0, 0, 0, []),
  (924, .iaload, 1, 0, 0, 0, 0, 0, []),
  (925, .aload_n 0, 1, 0, 0, 0, 0, 0, []),
  (926, .iload_n 3, 1, 3, 0, 0, 0, 0, []),
  (927, .iconst (4), 1, 0, 0, 0, (4), 0, []),
  (928, .iadd, 1, 0, 0, 0, 0, 0, []),
  (929, .iaload, 1, 0, 0, 0, 0, 0, []),
  (930, .invokevirtual 95, 3, 113, 5, 1, 0, 0, []),
  (933, .aload_n 2, 1, 2, 0, 0, 0, 0, []),
  (934, .aload_n 0, 1, 0, 0, 0, 0, 0, []),
  (935, .iload_n 3, 1, 3, 0, 0, 0, 0, []),
  (936, .iconst (1), 1, 0, 0, 0, (1), 0, []),
  (937, .iadd, 1, 0, 0, 0, 0, 0, []),
  (938, .iaload, 1, 0, 0, 0, 0, 0, []),
  (939, .aload_n 0, 1, 0, 0, 0, 0, 0, []),
  (940, .iload_n 3, 1, 3, 0, 0, 0, 0, []),
  (941, .iconst (2), 1, 0, 0, 0, (2), 0, []),
  (942, .iadd, 1, 0, 0, 0, 0, 0, []),
  (943, .iaload, 1, 0, 0, 0, 0, 0, []),
  (944, .aload_n 0, 1, 0, 0, 0, 0, 0, []),
  (945, .iload_n 3, 1, 3, 0, 0, 0, 0, []),
  (946, .iconst (3), 1, 0, 0, 0, (3), 0, []),
  (947, .iadd, 1, 0, 0, 0, 0, 0, []),
  (948, .iaload, 1, 0, 0, 0, 0, 0, []),
  (949, .aload_n 0, 1, 0, 0, 0, 0, 0, []),
  (950, .iload_n 3, 1, 3, 0, 0, 0, 0, []),
  (951, .iconst (4), 1, 0, 0, 0, (4), 0, []),
  (952, .iadd, 1, 0, 0, 0, 0, 0, []),
  (953, .iaload, 1, 0, 0, 0, 0, 0, []),
  (954, .invokevirtual 98, 3, 274, 5, 1, 0, 0, []),
  (957, .if_icmp .eq (978), 3, 1935, 0, 0, 0, 0, []),
  (960, .iconst (0), 1, 0, 0, 0, (0), 0, []),
  (961, .ireturn, 1, 0, 0, 0, 0, 0, [])]
set_option maxRecDepth 100000 in
theorem lL_law_909_ck : lL_law_909.all (ra_ck mL_law 13) = true := by decide +kernel
def nL_law_909 (N : Nat) (c18 : UInt32 → Nat → Nat → Int32 → ra_H → Option (Int32 × ra_H)) (a0 : UInt32) (a1 : Nat) (a2 : Nat) (a3 : Int32) (h : ra_H) : Option (Int32 × ra_H) :=
  (ra_xI h a0 (a3 + ((1 : Int32)))).bind fun x1 =>
  (ra_xI h a0 (a3 + ((2 : Int32)))).bind fun x2 =>
  (ra_xI h a0 (a3 + ((3 : Int32)))).bind fun x3 =>
  (ra_xI h a0 (a3 + ((4 : Int32)))).bind fun x4 =>
  (fX11_gap N a1 x1 x2 x3 x4 h).bind fun q5 =>
  (ra_xI q5.2 a0 (a3 + ((1 : Int32)))).bind fun x6 =>
  (ra_xI q5.2 a0 (a3 + ((2 : Int32)))).bind fun x7 =>
  (ra_xI q5.2 a0 (a3 + ((3 : Int32)))).bind fun x8 =>
  (ra_xI q5.2 a0 (a3 + ((4 : Int32)))).bind fun x9 =>
  (fX12_gap N a2 x6 x7 x8 x9 q5.2).bind fun q10 =>
  if q5.1 = q10.1 then
    nL_law_1935 N c18 a0 a1 a2 a3 q10.2
  else
    some ((0 : Int32), q10.2)
def kL_law_909 (N : Nat) (c18 : UInt32 → Nat → Nat → Int32 → ra_H → Option (Int32 × ra_H)) : Nat → List (Option Value) → List Value → ra_H → Option (Int32 × ra_H) := (ra_k1 1935 (fun L S h => match L, S with
  | [some (.float a0), some (.ref a1), some (.ref a2), some (.int a3)], [] => nL_law_1935 N c18 a0 a1 a2 a3 h
  | _, _ => none) ra_k0)
theorem kL_law_909_ok (N : Nat) (c18 : UInt32 → Nat → Nat → Int32 → ra_H → Option (Int32 × ra_H)) (hc18 : ∀ a0 a1 a2 a3 h r, c18 a0 a1 a2 a3 h = some r → ra_Ru 95 mL_law 18 [some (.float a0), some (.ref a1), some (.ref a2), some (.int a3)] [] h (ra_oI r)) : ra_kok 95 mL_law ra_oI (kL_law_909 N c18) := (ra_k1_ok (by
  intro L S h a e
  split at e
  · exact ra_Ru.weak (nL_law_1935_ok N c18 hc18 _ _ _ _ _ _ e) ⟨rfl, ⟨rfl, ⟨rfl, ⟨rfl, trivial⟩⟩⟩⟩
  · cases e) ra_k0_ok)
set_option maxRecDepth 100000 in
theorem nL_law_909_ok (N : Nat) (c18 : UInt32 → Nat → Nat → Int32 → ra_H → Option (Int32 × ra_H)) (hc18 : ∀ a0 a1 a2 a3 h r, c18 a0 a1 a2 a3 h = some r → ra_Ru 95 mL_law 18 [some (.float a0), some (.ref a1), some (.ref a2), some (.int a3)] [] h (ra_oI r)) (a0 : UInt32) (a1 : Nat) (a2 : Nat) (a3 : Int32) (h : ra_H) (r : (Int32 × ra_H)) (e : nL_law_909 N c18 a0 a1 a2 a3 h = some r) : ra_Ru 95 mL_law 909 [some (.float a0), some (.ref a1), some (.ref a2), some (.int a3)] [] h (ra_oI r) :=
  ra_sound (by omega) rfl ra_rI_ok (kL_law_909_ok N c18 hc18) (fun m av h h1 e => (tVL_law_ok N) m av h h1 e) (fun m av h x h1 e => (tIL_law_ok N) m av h (x, h1) e) (fun m av h x h1 e => (ra_c0_ok (ro := ra_oJ)) m av h (x, h1) e) (fun m av h x h1 e => (ra_c0_ok (ro := ra_oR)) m av h (x, h1) e) (fun m av h x h1 e => (ra_c0_ok (ro := ra_oN)) m av h (x, h1) e) (fun m av h x h1 e => (ra_c0_ok (ro := ra_oF)) m av h (x, h1) e) 48 lL_law_909 _ _ _ _ lL_law_909_ck (show ra_run ra_rI (kL_law_909 N c18) (tVL_law N) (tIL_law N) ra_c0 ra_c0 ra_c0 ra_c0 48 lL_law_909 [some (.float a0), some (.ref a1), some (.ref a2), some (.int a3)] [] h = some r from e) _ _ rfl
def lL_law_962 : List ra_I := [(962, .aload_n 1, 1, 1, 0, 0, 0, 0, []),
  (963, .aload_n 0, 1, 0, 0, 0, 0, 0, []),
  (964, .iload_n 3, 1, 3, 0, 0, 0, 0, []),
  (965, .iconst (1), 1, 0, 0, 0, (1), 0, []),
  (966, .iadd, 1, 0, 0, 0, 0, 0, []),
  (967, .iaload, 1, 0, 0, 0, 0, 0, []),
  (968, .aload_n 0, 1, 0, 0, 0, 0, 0, []),
  (969, .iload_n 3, 1, 3, 0, 0, 0, 0, []),
  (970, .iconst (2), 1, 0, 0, 0, (2), 0, []),
  (971, .iadd, 1, 0, 0, 0, 0, 0, []),
  (972, .iaload, 1, 0, 0, 0, 0, 0, []),
  (973, .aload_n 0, 1, 0, 0, 0, 0, 0, []),
  (974, .iload_n 3, 1, 3, 0, 0, 0, 0, []),
  (975, .iconst (3), 1, 0, 0, 0, (3), 0, []),
  (976, .iadd, 1, 0, 0, 0, 0, 0, []),
  (977, .iaload, 1, 0, 0, 0, 0, 0, []),
  (978, .aload_n 0, 1, 0, 0, 0, 0, 0, []),
  (979, .iload_n 3, 1, 3, 0, 0, 0, 0, []),
  (980, .iconst (4), 1, 0, 0, 0, (4), 0, []),
  (981, .iadd, 1, 0, 0, 0, 0, 0, []),
  (982, .iaload, 1, 0, 0, 0, 0, 0, []),
  (983, .invokevirtual 99, 3, 117, 5, 1, 0, 0, []),
  (986, .aload_n 2, 1, 2, 0, 0, 0, 0, []),
  (987, .aload_n 0, 1, 0, 0, 0, 0, 0, []),
  (988, .iload_n 3, 1, 3, 0, 0, 0, 0, []),
  (989, .iconst (1), 1, 0, 0, 0, (1), 0, []),
  (990, .iadd, 1, 0, 0, 0, 0, 0, []),
  (991, .iaload, 1, 0, 0, 0, 0, 0, []),
  (992, .aload_n 0, 1, 0, 0, 0, 0, 0, []),
  (993, .iload_n 3, 1, 3, 0, 0, 0, 0, []),
  (994, .iconst (2), 1, 0, 0, 0, (2), 0, []),
  (995, .iadd, 1, 0, 0, 0, 0, 0, []),
  (996, .iaload, 1, 0, 0, 0, 0, 0, []),
  (997, .aload_n 0, 1, 0, 0, 0, 0, 0, []),
  (998, .iload_n 3, 1, 3, 0, 0, 0, 0, []),
  (999, .iconst (3), 1, 0, 0, 0, (3), 0, []),
  (1000, .iadd, 1, 0, 0, 0, 0, 0, []),
  (1001, .iaload, 1, 0, 0, 0, 0, 0, []),
  (1002, .aload_n 0, 1, 0, 0, 0, 0, 0, []),
  (1003, .iload_n 3, 1, 3, 0, 0, 0, 0, []),
  (1004, .iconst (4), 1, 0, 0, 0, (4), 0, []),
  (1005, .iadd, 1, 0, 0, 0, 0, 0, []),
  (1006, .iaload, 1, 0, 0, 0, 0, 0, []),
  (1007, .invokevirtual 102, 3, 294, 5, 1, 0, 0, []),
  (1010, .if_icmp .eq (925), 3, 1935, 0, 0, 0, 0, []),
  (1013, .iconst (0), 1, 0, 0, 0, (0), 0, []),
  (1014, .ireturn, 1, 0, 0, 0, 0, 0, [])]
set_option maxRecDepth 100000 in
theorem lL_law_962_ck : lL_law_962.all (ra_ck mL_law 13) = true := by decide +kernel
def nL_law_962 (N : Nat) (c18 : UInt32 → Nat → Nat → Int32 → ra_H → Option (Int32 × ra_H)) (a0 : UInt32) (a1 : Nat) (a2 : Nat) (a3 : Int32) (h : ra_H) : Option (Int32 × ra_H) :=
  (ra_xI h a0 (a3 + ((1 : Int32)))).bind fun x1 =>
  (ra_xI h a0 (a3 + ((2 : Int32)))).bind fun x2 =>
  (ra_xI h a0 (a3 + ((3 : Int32)))).bind fun x3 =>
  (ra_xI h a0 (a3 + ((4 : Int32)))).bind fun x4 =>
  (fX11_could N a1 x1 x2 x3 x4 h).bind fun q5 =>
  (ra_xI q5.2 a0 (a3 + ((1 : Int32)))).bind fun x6 =>
  (ra_xI q5.2 a0 (a3 + ((2 : Int32)))).bind fun x7 =>
  (ra_xI q5.2 a0 (a3 + ((3 : Int32)))).bind fun x8 =>
  (ra_xI q5.2 a0 (a3 + ((4 : Int32)))).bind fun x9 =>
  (fX12_could N a2 x6 x7 x8 x9 q5.2).bind fun q10 =>
  if q5.1 = q10.1 then
    nL_law_1935 N c18 a0 a1 a2 a3 q10.2
  else
    some ((0 : Int32), q10.2)
def kL_law_962 (N : Nat) (c18 : UInt32 → Nat → Nat → Int32 → ra_H → Option (Int32 × ra_H)) : Nat → List (Option Value) → List Value → ra_H → Option (Int32 × ra_H) := (ra_k1 1935 (fun L S h => match L, S with
  | [some (.float a0), some (.ref a1), some (.ref a2), some (.int a3)], [] => nL_law_1935 N c18 a0 a1 a2 a3 h
  | _, _ => none) ra_k0)
theorem kL_law_962_ok (N : Nat) (c18 : UInt32 → Nat → Nat → Int32 → ra_H → Option (Int32 × ra_H)) (hc18 : ∀ a0 a1 a2 a3 h r, c18 a0 a1 a2 a3 h = some r → ra_Ru 95 mL_law 18 [some (.float a0), some (.ref a1), some (.ref a2), some (.int a3)] [] h (ra_oI r)) : ra_kok 95 mL_law ra_oI (kL_law_962 N c18) := (ra_k1_ok (by
  intro L S h a e
  split at e
  · exact ra_Ru.weak (nL_law_1935_ok N c18 hc18 _ _ _ _ _ _ e) ⟨rfl, ⟨rfl, ⟨rfl, ⟨rfl, trivial⟩⟩⟩⟩
  · cases e) ra_k0_ok)
set_option maxRecDepth 100000 in
theorem nL_law_962_ok (N : Nat) (c18 : UInt32 → Nat → Nat → Int32 → ra_H → Option (Int32 × ra_H)) (hc18 : ∀ a0 a1 a2 a3 h r, c18 a0 a1 a2 a3 h = some r → ra_Ru 95 mL_law 18 [some (.float a0), some (.ref a1), some (.ref a2), some (.int a3)] [] h (ra_oI r)) (a0 : UInt32) (a1 : Nat) (a2 : Nat) (a3 : Int32) (h : ra_H) (r : (Int32 × ra_H)) (e : nL_law_962 N c18 a0 a1 a2 a3 h = some r) : ra_Ru 95 mL_law 962 [some (.float a0), some (.ref a1), some (.ref a2), some (.int a3)] [] h (ra_oI r) :=
  ra_sound (by omega) rfl ra_rI_ok (kL_law_962_ok N c18 hc18) (fun m av h h1 e => (tVL_law_ok N) m av h h1 e) (fun m av h x h1 e => (tIL_law_ok N) m av h (x, h1) e) (fun m av h x h1 e => (ra_c0_ok (ro := ra_oJ)) m av h (x, h1) e) (fun m av h x h1 e => (ra_c0_ok (ro := ra_oR)) m av h (x, h1) e) (fun m av h x h1 e => (ra_c0_ok (ro := ra_oN)) m av h (x, h1) e) (fun m av h x h1 e => (ra_c0_ok (ro := ra_oF)) m av h (x, h1) e) 48 lL_law_962 _ _ _ _ lL_law_962_ck (show ra_run ra_rI (kL_law_962 N c18) (tVL_law N) (tIL_law N) ra_c0 ra_c0 ra_c0 ra_c0 48 lL_law_962 [some (.float a0), some (.ref a1), some (.ref a2), some (.int a3)] [] h = some r from e) _ _ rfl
def lL_law_1015 : List ra_I := [(1015, .aload_n 1, 1, 1, 0, 0, 0, 0, []),
  (1016, .aload_n 0, 1, 0, 0, 0, 0, 0, []),
  (1017, .iload_n 3, 1, 3, 0, 0, 0, 0, []),
  (1018, .iconst (1), 1, 0, 0, 0, (1), 0, []),
  (1019, .iadd, 1, 0, 0, 0, 0, 0, []),
  (1020, .iaload, 1, 0, 0, 0, 0, 0, []),
  (1021, .aload_n 0, 1, 0, 0, 0, 0, 0, []),
  (1022, .iload_n 3, 1, 3, 0, 0, 0, 0, []),
  (1023, .iconst (2), 1, 0, 0, 0, (2), 0, []),
  (1024, .iadd, 1, 0, 0, 0, 0, 0, []),
  (1025, .iaload, 1, 0, 0, 0, 0, 0, []),
  (1026, .aload_n 0, 1, 0, 0, 0, 0, 0, []),
  (1027, .iload_n 3, 1, 3, 0, 0, 0, 0, []),
  (1028, .iconst (3), 1, 0, 0, 0, (3), 0, []),
  (1029, .iadd, 1, 0, 0, 0, 0, 0, []),
  (1030, .iaload, 1, 0, 0, 0, 0, 0, []),
  (1031, .aload_n 0, 1, 0, 0, 0, 0, 0, []),
  (1032, .iload_n 3, 1, 3, 0, 0, 0, 0, []),
  (1033, .iconst (4), 1, 0, 0, 0, (4), 0, []),
  (1034, .iadd, 1, 0, 0, 0, 0, 0, []),
  (1035, .iaload, 1, 0, 0, 0, 0, 0, []),
  (1036, .aload_n 0, 1, 0, 0, 0, 0, 0, []),
  (1037, .iload_n 3, 1, 3, 0, 0, 0, 0, []),
  (1038, .iconst (5), 1, 0, 0, 0, (5), 0, []),
  (1039, .iadd, 1, 0, 0, 0, 0, 0, []),
  (1040, .iaload, 1, 0, 0, 0, 0, 0, []),
  (1041, .invokevirtual 103, 3, 145, 6, 1, 0, 0, []),
  (1044, .aload_n 2, 1, 2, 0, 0, 0, 0, []),
  (1045, .aload_n 0, 1, 0, 0, 0, 0, 0, []),
  (1046, .iload_n 3, 1, 3, 0, 0, 0, 0, []),
  (1047, .iconst (1), 1, 0, 0, 0, (1), 0, []),
  (1048, .iadd, 1, 0, 0, 0, 0, 0, []),
  (1049, .iaload, 1, 0, 0, 0, 0, 0, []),
  (1050, .aload_n 0, 1, 0, 0, 0, 0, 0, []),
  (1051, .iload_n 3, 1, 3, 0, 0, 0, 0, []),
  (1052, .iconst (2), 1, 0, 0, 0, (2), 0, []),
  (1053, .iadd, 1, 0, 0, 0, 0, 0, []),
  (1054, .iaload, 1, 0, 0, 0, 0, 0, []),
  (1055, .aload_n 0, 1, 0, 0, 0, 0, 0, []),
  (1056, .iload_n 3, 1, 3, 0, 0, 0, 0, []),
  (1057, .iconst (3), 1, 0, 0, 0, (3), 0, []),
  (1058, .iadd, 1, 0, 0, 0, 0, 0, []),
  (1059, .iaload, 1, 0, 0, 0, 0, 0, []),
  (1060, .aload_n 0, 1, 0, 0, 0, 0, 0, []),
  (1061, .iload_n 3, 1, 3, 0, 0, 0, 0, []),
  (1062, .iconst (4), 1, 0, 0, 0, (4), 0, []),
  (1063, .iadd, 1, 0, 0, 0, 0, 0, []),
  (1064, .iaload, 1, 0, 0, 0, 0, 0, []),
  (1065, .aload_n 0, 1, 0, 0, 0, 0, 0, []),
  (1066, .iload_n 3, 1, 3, 0, 0, 0, 0, []),
  (1067, .iconst (5), 1, 0, 0, 0, (5), 0, []),
  (1068, .iadd, 1, 0, 0, 0, 0, 0, []),
  (1069, .iaload, 1, 0, 0, 0, 0, 0, []),
  (1070, .invokevirtual 106, 3, 278, 6, 1, 0, 0, []),
  (1073, .if_icmp .eq (862), 3, 1935, 0, 0, 0, 0, []),
  (1076, .iconst (0), 1, 0, 0, 0, (0), 0, []),
  (1077, .ireturn, 1, 0, 0, 0, 0, 0, [])]
set_option maxRecDepth 100000 in
theorem lL_law_1015_ck : lL_law_1015.all (ra_ck mL_law 13) = true := by decide +kernel
def nL_law_1015 (N : Nat) (c18 : UInt32 → Nat → Nat → Int32 → ra_H → Option (Int32 × ra_H)) (a0 : UInt32) (a1 : Nat) (a2 : Nat) (a3 : Int32) (h : ra_H) : Option (Int32 × ra_H) :=
  (ra_xI h a0 (a3 + ((1 : Int32)))).bind fun x1 =>
  (ra_xI h a0 (a3 + ((2 : Int32)))).bind fun x2 =>
  (ra_xI h a0 (a3 + ((3 : Int32)))).bind fun x3 =>
  (ra_xI h a0 (a3 + ((4 : Int32)))).bind fun x4 =>
  (ra_xI h a0 (a3 + ((5 : Int32)))).bind fun x5 =>
  (fX11_line N a1 x1 x2 x3 x4 x5 h).bind fun q6 =>
  (ra_xI q6.2 a0 (a3 + ((1 : Int32)))).bind fun x7 =>
  (ra_xI q6.2 a0 (a3 + ((2 : Int32)))).bind fun x8 =>
  (ra_xI q6.2 a0 (a3 + ((3 : Int32)))).bind fun x9 =>
  (ra_xI q6.2 a0 (a3 + ((4 : Int32)))).bind fun x10 =>
  (ra_xI q6.2 a0 (a3 + ((5 : Int32)))).bind fun x11 =>
  (fX12_line N a2 x7 x8 x9 x10 x11 q6.2).bind fun q12 =>
  if q6.1 = q12.1 then
    nL_law_1935 N c18 a0 a1 a2 a3 q12.2
  else
    some ((0 : Int32), q12.2)
def kL_law_1015 (N : Nat) (c18 : UInt32 → Nat → Nat → Int32 → ra_H → Option (Int32 × ra_H)) : Nat → List (Option Value) → List Value → ra_H → Option (Int32 × ra_H) := (ra_k1 1935 (fun L S h => match L, S with
  | [some (.float a0), some (.ref a1), some (.ref a2), some (.int a3)], [] => nL_law_1935 N c18 a0 a1 a2 a3 h
  | _, _ => none) ra_k0)
theorem kL_law_1015_ok (N : Nat) (c18 : UInt32 → Nat → Nat → Int32 → ra_H → Option (Int32 × ra_H)) (hc18 : ∀ a0 a1 a2 a3 h r, c18 a0 a1 a2 a3 h = some r → ra_Ru 95 mL_law 18 [some (.float a0), some (.ref a1), some (.ref a2), some (.int a3)] [] h (ra_oI r)) : ra_kok 95 mL_law ra_oI (kL_law_1015 N c18) := (ra_k1_ok (by
  intro L S h a e
  split at e
  · exact ra_Ru.weak (nL_law_1935_ok N c18 hc18 _ _ _ _ _ _ e) ⟨rfl, ⟨rfl, ⟨rfl, ⟨rfl, trivial⟩⟩⟩⟩
  · cases e) ra_k0_ok)
set_option maxRecDepth 100000 in
theorem nL_law_1015_ok (N : Nat) (c18 : UInt32 → Nat → Nat → Int32 → ra_H → Option (Int32 × ra_H)) (hc18 : ∀ a0 a1 a2 a3 h r, c18 a0 a1 a2 a3 h = some r → ra_Ru 95 mL_law 18 [some (.float a0), some (.ref a1), some (.ref a2), some (.int a3)] [] h (ra_oI r)) (a0 : UInt32) (a1 : Nat) (a2 : Nat) (a3 : Int32) (h : ra_H) (r : (Int32 × ra_H)) (e : nL_law_1015 N c18 a0 a1 a2 a3 h = some r) : ra_Ru 95 mL_law 1015 [some (.float a0), some (.ref a1), some (.ref a2), some (.int a3)] [] h (ra_oI r) :=
  ra_sound (by omega) rfl ra_rI_ok (kL_law_1015_ok N c18 hc18) (fun m av h h1 e => (tVL_law_ok N) m av h h1 e) (fun m av h x h1 e => (tIL_law_ok N) m av h (x, h1) e) (fun m av h x h1 e => (ra_c0_ok (ro := ra_oJ)) m av h (x, h1) e) (fun m av h x h1 e => (ra_c0_ok (ro := ra_oR)) m av h (x, h1) e) (fun m av h x h1 e => (ra_c0_ok (ro := ra_oN)) m av h (x, h1) e) (fun m av h x h1 e => (ra_c0_ok (ro := ra_oF)) m av h (x, h1) e) 58 lL_law_1015 _ _ _ _ lL_law_1015_ck (show ra_run ra_rI (kL_law_1015 N c18) (tVL_law N) (tIL_law N) ra_c0 ra_c0 ra_c0 ra_c0 58 lL_law_1015 [some (.float a0), some (.ref a1), some (.ref a2), some (.int a3)] [] h = some r from e) _ _ rfl
def lL_law_1078 : List ra_I := [(1078, .aload_n 1, 1, 1, 0, 0, 0, 0, []),
  (1079, .aload_n 0, 1, 0, 0, 0, 0, 0, []),
  (1080, .iload_n 3, 1, 3, 0, 0, 0, 0, []),
  (1081, .iconst (1), 1, 0, 0, 0, (1), 0, []),
  (1082, .iadd, 1, 0, 0, 0, 0, 0, []),
  (1083, .iaload, 1, 0, 0, 0, 0, 0, []),
  (1084, .aload_n 0, 1, 0, 0, 0, 0, 0, []),
  (1085, .iload_n 3, 1, 3, 0, 0, 0, 0, []),
  (1086, .iconst (2), 1, 0, 0, 0, (2), 0, []),
  (1087, .iadd, 1, 0, 0, 0, 0, 0, []),
  (1088, .iaload, 1, 0, 0, 0, 0, 0, []),
  (1089, .invokevirtual 107, 3, 146, 3, 1, 0, 0, []),
  (1092, .aload_n 2, 1, 2, 0, 0, 0, 0, []),
  (1093, .aload_n 0, 1, 0, 0, 0, 0, 0, []),
  (1094, .iload_n 3, 1, 3, 0, 0, 0, 0, []),
  (1095, .iconst (1), 1, 0, 0, 0, (1), 0, []),
  (1096, .iadd, 1, 0, 0, 0, 0, 0, []),
  (1097, .iaload, 1, 0, 0, 0, 0, 0, []),
  (1098, .aload_n 0, 1, 0, 0, 0, 0, 0, []),
  (1099, .iload_n 3, 1, 3, 0, 0, 0, 0, []),
  (1100, .iconst (2), 1, 0, 0, 0, (2), 0, []),
  (1101, .iadd, 1, 0, 0, 0, 0, 0, []),
  (1102, .iaload, 1, 0, 0, 0, 0, 0, []),
  (1103, .invokevirtual 110, 3, 279, 3, 1, 0, 0, []),
  (1106, .if_icmp .eq (829), 3, 1935, 0, 0, 0, 0, []),
  (1109, .iconst (0), 1, 0, 0, 0, (0), 0, []),
  (1110, .ireturn, 1, 0, 0, 0, 0, 0, [])]
set_option maxRecDepth 100000 in
theorem lL_law_1078_ck : lL_law_1078.all (ra_ck mL_law 13) = true := by decide +kernel
def nL_law_1078 (N : Nat) (c18 : UInt32 → Nat → Nat → Int32 → ra_H → Option (Int32 × ra_H)) (a0 : UInt32) (a1 : Nat) (a2 : Nat) (a3 : Int32) (h : ra_H) : Option (Int32 × ra_H) :=
  (ra_xI h a0 (a3 + ((1 : Int32)))).bind fun x1 =>
  (ra_xI h a0 (a3 + ((2 : Int32)))).bind fun x2 =>
  (fX11_list N a1 x1 x2 h).bind fun q3 =>
  (ra_xI q3.2 a0 (a3 + ((1 : Int32)))).bind fun x4 =>
  (ra_xI q3.2 a0 (a3 + ((2 : Int32)))).bind fun x5 =>
  (fX12_list N a2 x4 x5 q3.2).bind fun q6 =>
  if q3.1 = q6.1 then
    nL_law_1935 N c18 a0 a1 a2 a3 q6.2
  else
    some ((0 : Int32), q6.2)
def kL_law_1078 (N : Nat) (c18 : UInt32 → Nat → Nat → Int32 → ra_H → Option (Int32 × ra_H)) : Nat → List (Option Value) → List Value → ra_H → Option (Int32 × ra_H) := (ra_k1 1935 (fun L S h => match L, S with
  | [some (.float a0), some (.ref a1), some (.ref a2), some (.int a3)], [] => nL_law_1935 N c18 a0 a1 a2 a3 h
  | _, _ => none) ra_k0)
theorem kL_law_1078_ok (N : Nat) (c18 : UInt32 → Nat → Nat → Int32 → ra_H → Option (Int32 × ra_H)) (hc18 : ∀ a0 a1 a2 a3 h r, c18 a0 a1 a2 a3 h = some r → ra_Ru 95 mL_law 18 [some (.float a0), some (.ref a1), some (.ref a2), some (.int a3)] [] h (ra_oI r)) : ra_kok 95 mL_law ra_oI (kL_law_1078 N c18) := (ra_k1_ok (by
  intro L S h a e
  split at e
  · exact ra_Ru.weak (nL_law_1935_ok N c18 hc18 _ _ _ _ _ _ e) ⟨rfl, ⟨rfl, ⟨rfl, ⟨rfl, trivial⟩⟩⟩⟩
  · cases e) ra_k0_ok)
set_option maxRecDepth 100000 in
theorem nL_law_1078_ok (N : Nat) (c18 : UInt32 → Nat → Nat → Int32 → ra_H → Option (Int32 × ra_H)) (hc18 : ∀ a0 a1 a2 a3 h r, c18 a0 a1 a2 a3 h = some r → ra_Ru 95 mL_law 18 [some (.float a0), some (.ref a1), some (.ref a2), some (.int a3)] [] h (ra_oI r)) (a0 : UInt32) (a1 : Nat) (a2 : Nat) (a3 : Int32) (h : ra_H) (r : (Int32 × ra_H)) (e : nL_law_1078 N c18 a0 a1 a2 a3 h = some r) : ra_Ru 95 mL_law 1078 [some (.float a0), some (.ref a1), some (.ref a2), some (.int a3)] [] h (ra_oI r) :=
  ra_sound (by omega) rfl ra_rI_ok (kL_law_1078_ok N c18 hc18) (fun m av h h1 e => (tVL_law_ok N) m av h h1 e) (fun m av h x h1 e => (tIL_law_ok N) m av h (x, h1) e) (fun m av h x h1 e => (ra_c0_ok (ro := ra_oJ)) m av h (x, h1) e) (fun m av h x h1 e => (ra_c0_ok (ro := ra_oR)) m av h (x, h1) e) (fun m av h x h1 e => (ra_c0_ok (ro := ra_oN)) m av h (x, h1) e) (fun m av h x h1 e => (ra_c0_ok (ro := ra_oF)) m av h (x, h1) e) 28 lL_law_1078 _ _ _ _ lL_law_1078_ck (show ra_run ra_rI (kL_law_1078 N c18) (tVL_law N) (tIL_law N) ra_c0 ra_c0 ra_c0 ra_c0 28 lL_law_1078 [some (.float a0), some (.ref a1), some (.ref a2), some (.int a3)] [] h = some r from e) _ _ rfl
def lL_law_1111 : List ra_I := [(1111, .aload_n 1, 1, 1, 0, 0, 0, 0, []),
  (1112, .aload_n 0, 1, 0, 0, 0, 0, 0, []),
  (1113, .iload_n 3, 1, 3, 0, 0, 0, 0, []),
  (1114, .iconst (1), 1, 0, 0, 0, (1), 0, []),
  (1115, .iadd, 1, 0, 0, 0, 0, 0, []),
  (1116, .iaload, 1, 0, 0, 0, 0, 0, []),
  (1117, .aload_n 0, 1, 0, 0, 0, 0, 0, []),
  (1118, .iload_n 3, 1, 3, 0, 0, 0, 0, []),
  (1119, .iconst (2), 1, 0, 0, 0, (2), 0, []),
  (1120, .iadd, 1, 0, 0, 0, 0, 0, []),
  (1121, .iaload, 1, 0, 0, 0, 0, 0, []),
  (1122, .invokevirtual 111, 3, 147, 3, 1, 0, 0, []),
  (1125, .aload_n 2, 1, 2, 0, 0, 0, 0, []),
  (1126, .aload_n 0, 1, 0, 0, 0, 0, 0, []),
  (1127, .iload_n 3, 1, 3, 0, 0, 0, 0, []),
  (1128, .iconst (1), 1, 0, 0, 0, (1), 0, []),
  (1129, .iadd, 1, 0, 0, 0, 0, 0, []),
  (1130, .iaload, 1, 0, 0, 0, 0, 0, []),
  (1131, .aload_n 0, 1, 0, 0, 0, 0, 0, []),
  (1132, .iload_n 3, 1, 3, 0, 0, 0, 0, []),
  (1133, .iconst (2), 1, 0, 0, 0, (2), 0, []),
  (1134, .iadd, 1, 0, 0, 0, 0, 0, []),
  (1135, .iaload, 1, 0, 0, 0, 0, 0, []),
  (1136, .invokevirtual 114, 3, 281, 3, 1, 0, 0, []),
  (1139, .if_icmp .eq (796), 3, 1935, 0, 0, 0, 0, []),
  (1142, .iconst (0), 1, 0, 0, 0, (0), 0, []),
  (1143, .ireturn, 1, 0, 0, 0, 0, 0, [])]
set_option maxRecDepth 100000 in
theorem lL_law_1111_ck : lL_law_1111.all (ra_ck mL_law 13) = true := by decide +kernel
def nL_law_1111 (N : Nat) (c18 : UInt32 → Nat → Nat → Int32 → ra_H → Option (Int32 × ra_H)) (a0 : UInt32) (a1 : Nat) (a2 : Nat) (a3 : Int32) (h : ra_H) : Option (Int32 × ra_H) :=
  (ra_xI h a0 (a3 + ((1 : Int32)))).bind fun x1 =>
  (ra_xI h a0 (a3 + ((2 : Int32)))).bind fun x2 =>
  (fX11_fights N a1 x1 x2 h).bind fun q3 =>
  (ra_xI q3.2 a0 (a3 + ((1 : Int32)))).bind fun x4 =>
  (ra_xI q3.2 a0 (a3 + ((2 : Int32)))).bind fun x5 =>
  (fX12_fights N a2 x4 x5 q3.2).bind fun q6 =>
  if q3.1 = q6.1 then
    nL_law_1935 N c18 a0 a1 a2 a3 q6.2
  else
    some ((0 : Int32), q6.2)
def kL_law_1111 (N : Nat) (c18 : UInt32 → Nat → Nat → Int32 → ra_H → Option (Int32 × ra_H)) : Nat → List (Option Value) → List Value → ra_H → Option (Int32 × ra_H) := (ra_k1 1935 (fun L S h => match L, S with
  | [some (.float a0), some (.ref a1), some (.ref a2), some (.int a3)], [] => nL_law_1935 N c18 a0 a1 a2 a3 h
  | _, _ => none) ra_k0)
theorem kL_law_1111_ok (N : Nat) (c18 : UInt32 → Nat → Nat → Int32 → ra_H → Option (Int32 × ra_H)) (hc18 : ∀ a0 a1 a2 a3 h r, c18 a0 a1 a2 a3 h = some r → ra_Ru 95 mL_law 18 [some (.float a0), some (.ref a1), some (.ref a2), some (.int a3)] [] h (ra_oI r)) : ra_kok 95 mL_law ra_oI (kL_law_1111 N c18) := (ra_k1_ok (by
  intro L S h a e
  split at e
  · exact ra_Ru.weak (nL_law_1935_ok N c18 hc18 _ _ _ _ _ _ e) ⟨rfl, ⟨rfl, ⟨rfl, ⟨rfl, trivial⟩⟩⟩⟩
  · cases e) ra_k0_ok)
set_option maxRecDepth 100000 in
theorem nL_law_1111_ok (N : Nat) (c18 : UInt32 → Nat → Nat → Int32 → ra_H → Option (Int32 × ra_H)) (hc18 : ∀ a0 a1 a2 a3 h r, c18 a0 a1 a2 a3 h = some r → ra_Ru 95 mL_law 18 [some (.float a0), some (.ref a1), some (.ref a2), some (.int a3)] [] h (ra_oI r)) (a0 : UInt32) (a1 : Nat) (a2 : Nat) (a3 : Int32) (h : ra_H) (r : (Int32 × ra_H)) (e : nL_law_1111 N c18 a0 a1 a2 a3 h = some r) : ra_Ru 95 mL_law 1111 [some (.float a0), some (.ref a1), some (.ref a2), some (.int a3)] [] h (ra_oI r) :=
  ra_sound (by omega) rfl ra_rI_ok (kL_law_1111_ok N c18 hc18) (fun m av h h1 e => (tVL_law_ok N) m av h h1 e) (fun m av h x h1 e => (tIL_law_ok N) m av h (x, h1) e) (fun m av h x h1 e => (ra_c0_ok (ro := ra_oJ)) m av h (x, h1) e) (fun m av h x h1 e => (ra_c0_ok (ro := ra_oR)) m av h (x, h1) e) (fun m av h x h1 e => (ra_c0_ok (ro := ra_oN)) m av h (x, h1) e) (fun m av h x h1 e => (ra_c0_ok (ro := ra_oF)) m av h (x, h1) e) 28 lL_law_1111 _ _ _ _ lL_law_1111_ck (show ra_run ra_rI (kL_law_1111 N c18) (tVL_law N) (tIL_law N) ra_c0 ra_c0 ra_c0 ra_c0 28 lL_law_1111 [some (.float a0), some (.ref a1), some (.ref a2), some (.int a3)] [] h = some r from e) _ _ rfl
def lL_law_1144 : List ra_I := [(1144, .aload_n 1, 1, 1, 0, 0, 0, 0, []),
  (1145, .aload_n 0, 1, 0, 0, 0, 0, 0, []),
  (1146, .iload_n 3, 1, 3, 0, 0, 0, 0, []),
  (1147, .iconst (1), 1, 0, 0, 0, (1), 0, []),
  (1148, .iadd, 1, 0, 0, 0, 0, 0, []),
  (1149, .iaload, 1, 0, 0, 0, 0, 0, []),
  (1150, .aload_n 0, 1, 0, 0, 0, 0, 0, []),
  (1151, .iload_n 3, 1, 3, 0, 0, 0, 0, []),
  (1152, .iconst (2), 1, 0, 0, 0, (2), 0, []),
  (1153, .iadd, 1, 0, 0, 0, 0, 0, []),
  (1154, .iaload, 1, 0, 0, 0, 0, 0, []),
  (1155, .aload_n 0, 1, 0, 0, 0, 0, 0, []),
  (1156, .iload_n 3, 1, 3, 0, 0, 0, 0, []),
  (1157, .iconst (3), 1, 0, 0, 0, (3), 0, []),
  (1158, .iadd, 1, 0, 0, 0, 0, 0, []),
  (1159, .iaload, 1, 0, 0, 0, 0, 0, []),
  (1160, .invokevirtual 115, 3, 149, 4, 1, 0, 0, []),
  (1163, .aload_n 2, 1, 2, 0, 0, 0, 0, []),
  (1164, .aload_n 0, 1, 0, 0, 0, 0, 0, []),
  (1165, .iload_n 3, 1, 3, 0, 0, 0, 0, []),
  (1166, .iconst (1), 1, 0, 0, 0, (1), 0, []),
  (1167, .iadd, 1, 0, 0, 0, 0, 0, []),
  (1168, .iaload, 1, 0, 0, 0, 0, 0, []),
  (1169, .aload_n 0, 1, 0, 0, 0, 0, 0, []),
  (1170, .iload_n 3, 1, 3, 0, 0, 0, 0, []),
  (1171, .iconst (2), 1, 0, 0, 0, (2), 0, []),
  (1172, .iadd, 1, 0, 0, 0, 0, 0, []),
  (1173, .iaload, 1, 0, 0, 0, 0, 0, []),
  (1174, .aload_n 0, 1, 0, 0, 0, 0, 0, []),
  (1175, .iload_n 3, 1, 3, 0, 0, 0, 0, []),
  (1176, .iconst (3), 1, 0, 0, 0, (3), 0, []),
  (1177, .iadd, 1, 0, 0, 0, 0, 0, []),
  (1178, .iaload, 1, 0, 0, 0, 0, 0, []),
  (1179, .invokevirtual 118, 3, 295, 4, 1, 0, 0, []),
  (1182, .if_icmp .eq (753), 3, 1935, 0, 0, 0, 0, []),
  (1185, .iconst (0), 1, 0, 0, 0, (0), 0, []),
  (1186, .ireturn, 1, 0, 0, 0, 0, 0, [])]
set_option maxRecDepth 100000 in
theorem lL_law_1144_ck : lL_law_1144.all (ra_ck mL_law 13) = true := by decide +kernel
def nL_law_1144 (N : Nat) (c18 : UInt32 → Nat → Nat → Int32 → ra_H → Option (Int32 × ra_H)) (a0 : UInt32) (a1 : Nat) (a2 : Nat) (a3 : Int32) (h : ra_H) : Option (Int32 × ra_H) :=
  (ra_xI h a0 (a3 + ((1 : Int32)))).bind fun x1 =>
  (ra_xI h a0 (a3 + ((2 : Int32)))).bind fun x2 =>
  (ra_xI h a0 (a3 + ((3 : Int32)))).bind fun x3 =>
  (fX11_wanting N a1 x1 x2 x3 h).bind fun q4 =>
  (ra_xI q4.2 a0 (a3 + ((1 : Int32)))).bind fun x5 =>
  (ra_xI q4.2 a0 (a3 + ((2 : Int32)))).bind fun x6 =>
  (ra_xI q4.2 a0 (a3 + ((3 : Int32)))).bind fun x7 =>
  (fX12_wanting N a2 x5 x6 x7 q4.2).bind fun q8 =>
  if q4.1 = q8.1 then
    nL_law_1935 N c18 a0 a1 a2 a3 q8.2
  else
    some ((0 : Int32), q8.2)
def kL_law_1144 (N : Nat) (c18 : UInt32 → Nat → Nat → Int32 → ra_H → Option (Int32 × ra_H)) : Nat → List (Option Value) → List Value → ra_H → Option (Int32 × ra_H) := (ra_k1 1935 (fun L S h => match L, S with
  | [some (.float a0), some (.ref a1), some (.ref a2), some (.int a3)], [] => nL_law_1935 N c18 a0 a1 a2 a3 h
  | _, _ => none) ra_k0)
theorem kL_law_1144_ok (N : Nat) (c18 : UInt32 → Nat → Nat → Int32 → ra_H → Option (Int32 × ra_H)) (hc18 : ∀ a0 a1 a2 a3 h r, c18 a0 a1 a2 a3 h = some r → ra_Ru 95 mL_law 18 [some (.float a0), some (.ref a1), some (.ref a2), some (.int a3)] [] h (ra_oI r)) : ra_kok 95 mL_law ra_oI (kL_law_1144 N c18) := (ra_k1_ok (by
  intro L S h a e
  split at e
  · exact ra_Ru.weak (nL_law_1935_ok N c18 hc18 _ _ _ _ _ _ e) ⟨rfl, ⟨rfl, ⟨rfl, ⟨rfl, trivial⟩⟩⟩⟩
  · cases e) ra_k0_ok)
set_option maxRecDepth 100000 in
theorem nL_law_1144_ok (N : Nat) (c18 : UInt32 → Nat → Nat → Int32 → ra_H → Option (Int32 × ra_H)) (hc18 : ∀ a0 a1 a2 a3 h r, c18 a0 a1 a2 a3 h = some r → ra_Ru 95 mL_law 18 [some (.float a0), some (.ref a1), some (.ref a2), some (.int a3)] [] h (ra_oI r)) (a0 : UInt32) (a1 : Nat) (a2 : Nat) (a3 : Int32) (h : ra_H) (r : (Int32 × ra_H)) (e : nL_law_1144 N c18 a0 a1 a2 a3 h = some r) : ra_Ru 95 mL_law 1144 [some (.float a0), some (.ref a1), some (.ref a2), some (.int a3)] [] h (ra_oI r) :=
  ra_sound (by omega) rfl ra_rI_ok (kL_law_1144_ok N c18 hc18) (fun m av h h1 e => (tVL_law_ok N) m av h h1 e) (fun m av h x h1 e => (tIL_law_ok N) m av h (x, h1) e) (fun m av h x h1 e => (ra_c0_ok (ro := ra_oJ)) m av h (x, h1) e) (fun m av h x h1 e => (ra_c0_ok (ro := ra_oR)) m av h (x, h1) e) (fun m av h x h1 e => (ra_c0_ok (ro := ra_oN)) m av h (x, h1) e) (fun m av h x h1 e => (ra_c0_ok (ro := ra_oF)) m av h (x, h1) e) 38 lL_law_1144 _ _ _ _ lL_law_1144_ck (show ra_run ra_rI (kL_law_1144 N c18) (tVL_law N) (tIL_law N) ra_c0 ra_c0 ra_c0 ra_c0 38 lL_law_1144 [some (.float a0), some (.ref a1), some (.ref a2), some (.int a3)] [] h = some r from e) _ _ rfl
def lL_law_1187 : List ra_I := [(1187, .aload_n 1, 1, 1, 0, 0, 0, 0, []),
  (1188, .aload_n 0, 1, 0, 0, 0, 0, 0, []),
  (1189, .iload_n 3, 1, 3, 0, 0, 0, 0, []),
  (1190, .iconst (1), 1, 0, 0, 0, (1), 0, []),
  (1191, .iadd, 1, 0, 0, 0, 0, 0, []),
  (1192, .iaload, 1, 0, 0, 0, 0, 0, []),
  (1193, .invokevirtual 119, 3, 153, 2, 1, 0, 0, []),
  (1196, .aload_n 2, 1, 2, 0, 0, 0, 0, []),
  (1197, .aload_n 0, 1, 0, 0, 0, 0, 0, []),
  (1198, .iload_n 3, 1, 3, 0, 0, 0, 0, []),
  (1199, .iconst (1), 1, 0, 0, 0, (1), 0, []),
  (1200, .iadd, 1, 0, 0, 0, 0, 0, []),
  (1201, .iaload, 1, 0, 0, 0, 0, 0, []),
  (1202, .invokevirtual 122, 3, 296, 2, 1, 0, 0, []),
  (1205, .if_icmp .eq (730), 3, 1935, 0, 0, 0, 0, []),
  (1208, .iconst (0), 1, 0, 0, 0, (0), 0, []),
  (1209, .ireturn, 1, 0, 0, 0, 0, 0, [])]
set_option maxRecDepth 100000 in
theorem lL_law_1187_ck : lL_law_1187.all (ra_ck mL_law 13) = true := by decide +kernel
def nL_law_1187 (N : Nat) (c18 : UInt32 → Nat → Nat → Int32 → ra_H → Option (Int32 × ra_H)) (a0 : UInt32) (a1 : Nat) (a2 : Nat) (a3 : Int32) (h : ra_H) : Option (Int32 × ra_H) :=
  (ra_xI h a0 (a3 + ((1 : Int32)))).bind fun x1 =>
  (fX11_runs N a1 x1 h).bind fun q2 =>
  (ra_xI q2.2 a0 (a3 + ((1 : Int32)))).bind fun x3 =>
  (fX12_runs N a2 x3 q2.2).bind fun q4 =>
  if q2.1 = q4.1 then
    nL_law_1935 N c18 a0 a1 a2 a3 q4.2
  else
    some ((0 : Int32), q4.2)
def kL_law_1187 (N : Nat) (c18 : UInt32 → Nat → Nat → Int32 → ra_H → Option (Int32 × ra_H)) : Nat → List (Option Value) → List Value → ra_H → Option (Int32 × ra_H) := (ra_k1 1935 (fun L S h => match L, S with
  | [some (.float a0), some (.ref a1), some (.ref a2), some (.int a3)], [] => nL_law_1935 N c18 a0 a1 a2 a3 h
  | _, _ => none) ra_k0)
theorem kL_law_1187_ok (N : Nat) (c18 : UInt32 → Nat → Nat → Int32 → ra_H → Option (Int32 × ra_H)) (hc18 : ∀ a0 a1 a2 a3 h r, c18 a0 a1 a2 a3 h = some r → ra_Ru 95 mL_law 18 [some (.float a0), some (.ref a1), some (.ref a2), some (.int a3)] [] h (ra_oI r)) : ra_kok 95 mL_law ra_oI (kL_law_1187 N c18) := (ra_k1_ok (by
  intro L S h a e
  split at e
  · exact ra_Ru.weak (nL_law_1935_ok N c18 hc18 _ _ _ _ _ _ e) ⟨rfl, ⟨rfl, ⟨rfl, ⟨rfl, trivial⟩⟩⟩⟩
  · cases e) ra_k0_ok)
set_option maxRecDepth 100000 in
theorem nL_law_1187_ok (N : Nat) (c18 : UInt32 → Nat → Nat → Int32 → ra_H → Option (Int32 × ra_H)) (hc18 : ∀ a0 a1 a2 a3 h r, c18 a0 a1 a2 a3 h = some r → ra_Ru 95 mL_law 18 [some (.float a0), some (.ref a1), some (.ref a2), some (.int a3)] [] h (ra_oI r)) (a0 : UInt32) (a1 : Nat) (a2 : Nat) (a3 : Int32) (h : ra_H) (r : (Int32 × ra_H)) (e : nL_law_1187 N c18 a0 a1 a2 a3 h = some r) : ra_Ru 95 mL_law 1187 [some (.float a0), some (.ref a1), some (.ref a2), some (.int a3)] [] h (ra_oI r) :=
  ra_sound (by omega) rfl ra_rI_ok (kL_law_1187_ok N c18 hc18) (fun m av h h1 e => (tVL_law_ok N) m av h h1 e) (fun m av h x h1 e => (tIL_law_ok N) m av h (x, h1) e) (fun m av h x h1 e => (ra_c0_ok (ro := ra_oJ)) m av h (x, h1) e) (fun m av h x h1 e => (ra_c0_ok (ro := ra_oR)) m av h (x, h1) e) (fun m av h x h1 e => (ra_c0_ok (ro := ra_oN)) m av h (x, h1) e) (fun m av h x h1 e => (ra_c0_ok (ro := ra_oF)) m av h (x, h1) e) 18 lL_law_1187 _ _ _ _ lL_law_1187_ck (show ra_run ra_rI (kL_law_1187 N c18) (tVL_law N) (tIL_law N) ra_c0 ra_c0 ra_c0 ra_c0 18 lL_law_1187 [some (.float a0), some (.ref a1), some (.ref a2), some (.int a3)] [] h = some r from e) _ _ rfl
def lL_law_1210 : List ra_I := [(1210, .aload_n 1, 1, 1, 0, 0, 0, 0, []),
  (1211, .aload_n 0, 1, 0, 0, 0, 0, 0, []),
  (1212, .iload_n 3, 1, 3, 0, 0, 0, 0, []),
  (1213, .iconst (1), 1, 0, 0, 0, (1), 0, []),
  (1214, .iadd, 1, 0, 0, 0, 0, 0, []),
  (1215, .iaload, 1, 0, 0, 0, 0, 0, []),
  (1216, .aload_n 0, 1, 0, 0, 0, 0, 0, []),
  (1217, .iload_n 3, 1, 3, 0, 0, 0, 0, []),
  (1218, .iconst (2), 1, 0, 0, 0, (2), 0, []),
  (1219, .iadd, 1, 0, 0, 0, 0, 0, []),
  (1220, .iaload, 1, 0, 0, 0, 0, 0, []),
  (1221, .aload_n 0, 1, 0, 0, 0, 0, 0, []),
  (1222, .iload_n 3, 1, 3, 0, 0, 0, 0, []),
  (1223, .iconst (3), 1, 0, 0, 0, (3), 0, []),
  (1224, .iadd, 1, 0, 0, 0, 0, 0, []),
  (1225, .iaload, 1, 0, 0, 0, 0, 0, []),
  (1226, .invokevirtual 123, 3, 157, 4, 1, 0, 0, []),
  (1229, .aload_n 2, 1, 2, 0, 0, 0, 0, []),
  (1230, .aload_n 0, 1, 0, 0, 0, 0, 0, []),
  (1231, .iload_n 3, 1, 3, 0, 0, 0, 0, []),
  (1232, .iconst (1), 1, 0, 0, 0, (1), 0, []),
  (1233, .iadd, 1, 0, 0, 0, 0, 0, []),
  (1234, .iaload, 1, 0, 0, 0, 0, 0, []),
  (1235, .aload_n 0, 1, 0, 0, 0, 0, 0, []),
  (1236, .iload_n 3, 1, 3, 0, 0, 0, 0, []),
  (1237, .iconst (2), 1, 0, 0, 0, (2), 0, []),
  (1238, .iadd, 1, 0, 0, 0, 0, 0, []),
  (1239, .iaload, 1, 0, 0, 0, 0, 0, []),
  (1240, .aload_n 0, 1, 0, 0, 0, 0, 0, []),
  (1241, .iload_n 3, 1, 3, 0, 0, 0, 0, []),
  (1242, .iconst (3), 1, 0, 0, 0, (3), 0, []),
  (1243, .iadd, 1, 0, 0, 0, 0, 0, []),
  (1244, .iaload, 1, 0, 0, 0, 0, 0, []),
  (1245, .invokevirtual 126, 3, 297, 4, 1, 0, 0, []),
  (1248, .if_icmp .eq (687), 3, 1935, 0, 0, 0, 0, []),
  (1251, .iconst (0), 1, 0, 0, 0, (0), 0, []),
  (1252, .ireturn, 1, 0, 0, 0, 0, 0, [])]
set_option maxRecDepth 100000 in
theorem lL_law_1210_ck : lL_law_1210.all (ra_ck mL_law 13) = true := by decide +kernel
def nL_law_1210 (N : Nat) (c18 : UInt32 → Nat → Nat → Int32 → ra_H → Option (Int32 × ra_H)) (a0 : UInt32) (a1 : Nat) (a2 : Nat) (a3 : Int32) (h : ra_H) : Option (Int32 × ra_H) :=
  (ra_xI h a0 (a3 + ((1 : Int32)))).bind fun x1 =>
  (ra_xI h a0 (a3 + ((2 : Int32)))).bind fun x2 =>
  (ra_xI h a0 (a3 + ((3 : Int32)))).bind fun x3 =>
  (fX11_binder N a1 x1 x2 x3 h).bind fun q4 =>
  (ra_xI q4.2 a0 (a3 + ((1 : Int32)))).bind fun x5 =>
  (ra_xI q4.2 a0 (a3 + ((2 : Int32)))).bind fun x6 =>
  (ra_xI q4.2 a0 (a3 + ((3 : Int32)))).bind fun x7 =>
  (fX12_binder N a2 x5 x6 x7 q4.2).bind fun q8 =>
  if q4.1 = q8.1 then
    nL_law_1935 N c18 a0 a1 a2 a3 q8.2
  else
    some ((0 : Int32), q8.2)
def kL_law_1210 (N : Nat) (c18 : UInt32 → Nat → Nat → Int32 → ra_H → Option (Int32 × ra_H)) : Nat → List (Option Value) → List Value → ra_H → Option (Int32 × ra_H) := (ra_k1 1935 (fun L S h => match L, S with
  | [some (.float a0), some (.ref a1), some (.ref a2), some (.int a3)], [] => nL_law_1935 N c18 a0 a1 a2 a3 h
  | _, _ => none) ra_k0)
theorem kL_law_1210_ok (N : Nat) (c18 : UInt32 → Nat → Nat → Int32 → ra_H → Option (Int32 × ra_H)) (hc18 : ∀ a0 a1 a2 a3 h r, c18 a0 a1 a2 a3 h = some r → ra_Ru 95 mL_law 18 [some (.float a0), some (.ref a1), some (.ref a2), some (.int a3)] [] h (ra_oI r)) : ra_kok 95 mL_law ra_oI (kL_law_1210 N c18) := (ra_k1_ok (by
  intro L S h a e
  split at e
  · exact ra_Ru.weak (nL_law_1935_ok N c18 hc18 _ _ _ _ _ _ e) ⟨rfl, ⟨rfl, ⟨rfl, ⟨rfl, trivial⟩⟩⟩⟩
  · cases e) ra_k0_ok)
set_option maxRecDepth 100000 in
theorem nL_law_1210_ok (N : Nat) (c18 : UInt32 → Nat → Nat → Int32 → ra_H → Option (Int32 × ra_H)) (hc18 : ∀ a0 a1 a2 a3 h r, c18 a0 a1 a2 a3 h = some r → ra_Ru 95 mL_law 18 [some (.float a0), some (.ref a1), some (.ref a2), some (.int a3)] [] h (ra_oI r)) (a0 : UInt32) (a1 : Nat) (a2 : Nat) (a3 : Int32) (h : ra_H) (r : (Int32 × ra_H)) (e : nL_law_1210 N c18 a0 a1 a2 a3 h = some r) : ra_Ru 95 mL_law 1210 [some (.float a0), some (.ref a1), some (.ref a2), some (.int a3)] [] h (ra_oI r) :=
  ra_sound (by omega) rfl ra_rI_ok (kL_law_1210_ok N c18 hc18) (fun m av h h1 e => (tVL_law_ok N) m av h h1 e) (fun m av h x h1 e => (tIL_law_ok N) m av h (x, h1) e) (fun m av h x h1 e => (ra_c0_ok (ro := ra_oJ)) m av h (x, h1) e) (fun m av h x h1 e => (ra_c0_ok (ro := ra_oR)) m av h (x, h1) e) (fun m av h x h1 e => (ra_c0_ok (ro := ra_oN)) m av h (x, h1) e) (fun m av h x h1 e => (ra_c0_ok (ro := ra_oF)) m av h (x, h1) e) 38 lL_law_1210 _ _ _ _ lL_law_1210_ck (show ra_run ra_rI (kL_law_1210 N c18) (tVL_law N) (tIL_law N) ra_c0 ra_c0 ra_c0 ra_c0 38 lL_law_1210 [some (.float a0), some (.ref a1), some (.ref a2), some (.int a3)] [] h = some r from e) _ _ rfl
def lL_law_1253 : List ra_I := [(1253, .aload_n 1, 1, 1, 0, 0, 0, 0, []),
  (1254, .aload_n 0, 1, 0, 0, 0, 0, 0, []),
  (1255, .iload_n 3, 1, 3, 0, 0, 0, 0, []),
  (1256, .iconst (1), 1, 0, 0, 0, (1), 0, []),
  (1257, .iadd, 1, 0, 0, 0, 0, 0, []),
  (1258, .iaload, 1, 0, 0, 0, 0, 0, []),
  (1259, .invokevirtual 127, 3, 159, 2, 1, 0, 0, []),
  (1262, .aload_n 2, 1, 2, 0, 0, 0, 0, []),
  (1263, .aload_n 0, 1, 0, 0, 0, 0, 0, []),
  (1264, .iload_n 3, 1, 3, 0, 0, 0, 0, []),
  (1265, .iconst (1), 1, 0, 0, 0, (1), 0, []),
  (1266, .iadd, 1, 0, 0, 0, 0, 0, []),
  (1267, .iaload, 1, 0, 0, 0, 0, 0, []),
  (1268, .invokevirtual 130, 3, 299, 2, 1, 0, 0, []),
  (1271, .if_icmp .eq (664), 3, 1935, 0, 0, 0, 0, []),
  (1274, .iconst (0), 1, 0, 0, 0, (0), 0, []),
  (1275, .ireturn, 1, 0, 0, 0, 0, 0, [])]
set_option maxRecDepth 100000 in
theorem lL_law_1253_ck : lL_law_1253.all (ra_ck mL_law 13) = true := by decide +kernel
def nL_law_1253 (N : Nat) (c18 : UInt32 → Nat → Nat → Int32 → ra_H → Option (Int32 × ra_H)) (a0 : UInt32) (a1 : Nat) (a2 : Nat) (a3 : Int32) (h : ra_H) : Option (Int32 × ra_H) :=
  (ra_xI h a0 (a3 + ((1 : Int32)))).bind fun x1 =>
  (fX11_bound N a1 x1 h).bind fun q2 =>
  (ra_xI q2.2 a0 (a3 + ((1 : Int32)))).bind fun x3 =>
  (fX12_bound N a2 x3 q2.2).bind fun q4 =>
  if q2.1 = q4.1 then
    nL_law_1935 N c18 a0 a1 a2 a3 q4.2
  else
    some ((0 : Int32), q4.2)
def kL_law_1253 (N : Nat) (c18 : UInt32 → Nat → Nat → Int32 → ra_H → Option (Int32 × ra_H)) : Nat → List (Option Value) → List Value → ra_H → Option (Int32 × ra_H) := (ra_k1 1935 (fun L S h => match L, S with
  | [some (.float a0), some (.ref a1), some (.ref a2), some (.int a3)], [] => nL_law_1935 N c18 a0 a1 a2 a3 h
  | _, _ => none) ra_k0)
theorem kL_law_1253_ok (N : Nat) (c18 : UInt32 → Nat → Nat → Int32 → ra_H → Option (Int32 × ra_H)) (hc18 : ∀ a0 a1 a2 a3 h r, c18 a0 a1 a2 a3 h = some r → ra_Ru 95 mL_law 18 [some (.float a0), some (.ref a1), some (.ref a2), some (.int a3)] [] h (ra_oI r)) : ra_kok 95 mL_law ra_oI (kL_law_1253 N c18) := (ra_k1_ok (by
  intro L S h a e
  split at e
  · exact ra_Ru.weak (nL_law_1935_ok N c18 hc18 _ _ _ _ _ _ e) ⟨rfl, ⟨rfl, ⟨rfl, ⟨rfl, trivial⟩⟩⟩⟩
  · cases e) ra_k0_ok)
set_option maxRecDepth 100000 in
theorem nL_law_1253_ok (N : Nat) (c18 : UInt32 → Nat → Nat → Int32 → ra_H → Option (Int32 × ra_H)) (hc18 : ∀ a0 a1 a2 a3 h r, c18 a0 a1 a2 a3 h = some r → ra_Ru 95 mL_law 18 [some (.float a0), some (.ref a1), some (.ref a2), some (.int a3)] [] h (ra_oI r)) (a0 : UInt32) (a1 : Nat) (a2 : Nat) (a3 : Int32) (h : ra_H) (r : (Int32 × ra_H)) (e : nL_law_1253 N c18 a0 a1 a2 a3 h = some r) : ra_Ru 95 mL_law 1253 [some (.float a0), some (.ref a1), some (.ref a2), some (.int a3)] [] h (ra_oI r) :=
  ra_sound (by omega) rfl ra_rI_ok (kL_law_1253_ok N c18 hc18) (fun m av h h1 e => (tVL_law_ok N) m av h h1 e) (fun m av h x h1 e => (tIL_law_ok N) m av h (x, h1) e) (fun m av h x h1 e => (ra_c0_ok (ro := ra_oJ)) m av h (x, h1) e) (fun m av h x h1 e => (ra_c0_ok (ro := ra_oR)) m av h (x, h1) e) (fun m av h x h1 e => (ra_c0_ok (ro := ra_oN)) m av h (x, h1) e) (fun m av h x h1 e => (ra_c0_ok (ro := ra_oF)) m av h (x, h1) e) 18 lL_law_1253 _ _ _ _ lL_law_1253_ck (show ra_run ra_rI (kL_law_1253 N c18) (tVL_law N) (tIL_law N) ra_c0 ra_c0 ra_c0 ra_c0 18 lL_law_1253 [some (.float a0), some (.ref a1), some (.ref a2), some (.int a3)] [] h = some r from e) _ _ rfl
def lL_law_1276 : List ra_I := [(1276, .aload_n 1, 1, 1, 0, 0, 0, 0, []),
  (1277, .aload_n 0, 1, 0, 0, 0, 0, 0, []),
  (1278, .iload_n 3, 1, 3, 0, 0, 0, 0, []),
  (1279, .iconst (1), 1, 0, 0, 0, (1), 0, []),
  (1280, .iadd, 1, 0, 0, 0, 0, 0, []),
  (1281, .iaload, 1, 0, 0, 0, 0, 0, []),
  (1282, .aload_n 0, 1, 0, 0, 0, 0, 0, []),
  (1283, .iload_n 3, 1, 3, 0, 0, 0, 0, []),
  (1284, .iconst (2), 1, 0, 0, 0, (2), 0, []),
  (1285, .iadd, 1, 0, 0, 0, 0, 0, []),
  (1286, .iaload, 1, 0, 0, 0, 0, 0, []),
  (1287, .invokevirtual 131, 3, 160, 3, 1, 0, 0, []),
  (1290, .aload_n 2, 1, 2, 0, 0, 0, 0, []),
  (1291, .aload_n 0, 1, 0, 0, 0, 0, 0, []),
  (1292, .iload_n 3, 1, 3, 0, 0, 0, 0, []),
  (1293, .iconst (1), 1, 0, 0, 0, (1), 0, []),
  (1294, .iadd, 1, 0, 0, 0, 0, 0, []),
  (1295, .iaload, 1, 0, 0, 0, 0, 0, []),
  (1296, .aload_n 0, 1, 0, 0, 0, 0, 0, []),
  (1297, .iload_n 3, 1, 3, 0, 0, 0, 0, []),
  (1298, .iconst (2), 1, 0, 0, 0, (2), 0, []),
  (1299, .iadd, 1, 0, 0, 0, 0, 0, []),
  (1300, .iaload, 1, 0, 0, 0, 0, 0, []),
  (1301, .invokevirtual 134, 3, 275, 3, 1, 0, 0, []),
  (1304, .if_icmp .eq (631), 3, 1935, 0, 0, 0, 0, []),
  (1307, .iconst (0), 1, 0, 0, 0, (0), 0, []),
  (1308, .ireturn, 1, 0, 0, 0, 0, 0, [])]
set_option maxRecDepth 100000 in
theorem lL_law_1276_ck : lL_law_1276.all (ra_ck mL_law 13) = true := by decide +kernel
def nL_law_1276 (N : Nat) (c18 : UInt32 → Nat → Nat → Int32 → ra_H → Option (Int32 × ra_H)) (a0 : UInt32) (a1 : Nat) (a2 : Nat) (a3 : Int32) (h : ra_H) : Option (Int32 × ra_H) :=
  (ra_xI h a0 (a3 + ((1 : Int32)))).bind fun x1 =>
  (ra_xI h a0 (a3 + ((2 : Int32)))).bind fun x2 =>
  (fX11_nearest N a1 x1 x2 h).bind fun q3 =>
  (ra_xI q3.2 a0 (a3 + ((1 : Int32)))).bind fun x4 =>
  (ra_xI q3.2 a0 (a3 + ((2 : Int32)))).bind fun x5 =>
  (fX12_nearest N a2 x4 x5 q3.2).bind fun q6 =>
  if q3.1 = q6.1 then
    nL_law_1935 N c18 a0 a1 a2 a3 q6.2
  else
    some ((0 : Int32), q6.2)
def kL_law_1276 (N : Nat) (c18 : UInt32 → Nat → Nat → Int32 → ra_H → Option (Int32 × ra_H)) : Nat → List (Option Value) → List Value → ra_H → Option (Int32 × ra_H) := (ra_k1 1935 (fun L S h => match L, S with
  | [some (.float a0), some (.ref a1), some (.ref a2), some (.int a3)], [] => nL_law_1935 N c18 a0 a1 a2 a3 h
  | _, _ => none) ra_k0)
theorem kL_law_1276_ok (N : Nat) (c18 : UInt32 → Nat → Nat → Int32 → ra_H → Option (Int32 × ra_H)) (hc18 : ∀ a0 a1 a2 a3 h r, c18 a0 a1 a2 a3 h = some r → ra_Ru 95 mL_law 18 [some (.float a0), some (.ref a1), some (.ref a2), some (.int a3)] [] h (ra_oI r)) : ra_kok 95 mL_law ra_oI (kL_law_1276 N c18) := (ra_k1_ok (by
  intro L S h a e
  split at e
  · exact ra_Ru.weak (nL_law_1935_ok N c18 hc18 _ _ _ _ _ _ e) ⟨rfl, ⟨rfl, ⟨rfl, ⟨rfl, trivial⟩⟩⟩⟩
  · cases e) ra_k0_ok)
set_option maxRecDepth 100000 in
theorem nL_law_1276_ok (N : Nat) (c18 : UInt32 → Nat → Nat → Int32 → ra_H → Option (Int32 × ra_H)) (hc18 : ∀ a0 a1 a2 a3 h r, c18 a0 a1 a2 a3 h = some r → ra_Ru 95 mL_law 18 [some (.float a0), some (.ref a1), some (.ref a2), some (.int a3)] [] h (ra_oI r)) (a0 : UInt32) (a1 : Nat) (a2 : Nat) (a3 : Int32) (h : ra_H) (r : (Int32 × ra_H)) (e : nL_law_1276 N c18 a0 a1 a2 a3 h = some r) : ra_Ru 95 mL_law 1276 [some (.float a0), some (.ref a1), some (.ref a2), some (.int a3)] [] h (ra_oI r) :=
  ra_sound (by omega) rfl ra_rI_ok (kL_law_1276_ok N c18 hc18) (fun m av h h1 e => (tVL_law_ok N) m av h h1 e) (fun m av h x h1 e => (tIL_law_ok N) m av h (x, h1) e) (fun m av h x h1 e => (ra_c0_ok (ro := ra_oJ)) m av h (x, h1) e) (fun m av h x h1 e => (ra_c0_ok (ro := ra_oR)) m av h (x, h1) e) (fun m av h x h1 e => (ra_c0_ok (ro := ra_oN)) m av h (x, h1) e) (fun m av h x h1 e => (ra_c0_ok (ro := ra_oF)) m av h (x, h1) e) 28 lL_law_1276 _ _ _ _ lL_law_1276_ck (show ra_run ra_rI (kL_law_1276 N c18) (tVL_law N) (tIL_law N) ra_c0 ra_c0 ra_c0 ra_c0 28 lL_law_1276 [some (.float a0), some (.ref a1), some (.ref a2), some (.int a3)] [] h = some r from e) _ _ rfl
def lL_law_1309 : List ra_I := [(1309, .aload_n 1, 1, 1, 0, 0, 0, 0, []),
  (1310, .aload_n 0, 1, 0, 0, 0, 0, 0, []),
  (1311, .iload_n 3, 1, 3, 0, 0, 0, 0, []),
  (1312, .iconst (1), 1, 0, 0, 0, (1), 0, []),
  (1313, .iadd, 1, 0, 0, 0, 0, 0, []),
  (1314, .iaload, 1, 0, 0, 0, 0, 0, []),
  (1315, .aload_n 0, 1, 0, 0, 0, 0, 0, []),
  (1316, .iload_n 3, 1, 3, 0, 0, 0, 0, []),
  (1317, .iconst (2), 1, 0, 0, 0, (2), 0, []),
  (1318, .iadd, 1, 0, 0, 0, 0, 0, []),
  (1319, .iaload, 1, 0, 0, 0, 0, 0, []),
  (1320, .invokevirtual 135, 3, 164, 3, 1, 0, 0, []),
  (1323, .aload_n 2, 1, 2, 0, 0, 0, 0, []),
  (1324, .aload_n 0, 1, 0, 0, 0, 0, 0, []),
  (1325, .iload_n 3, 1, 3, 0, 0, 0, 0, []),
  (1326, .iconst (1), 1, 0, 0, 0, (1), 0, []),
  (1327, .iadd, 1, 0, 0, 0, 0, 0, []),
  (1328, .iaload, 1, 0, 0, 0, 0, 0, []),
  (1329, .aload_n 0, 1, 0, 0, 0, 0, 0, []),
  (1330, .iload_n 3, 1, 3, 0, 0, 0, 0, []),
  (1331, .iconst (2), 1, 0, 0, 0, (2), 0, []),
  (1332, .iadd, 1, 0, 0, 0, 0, 0, []),
  (1333, .iaload, 1, 0, 0, 0, 0, 0, []),
  (1334, .invokevirtual 138, 3, 276, 3, 1, 0, 0, []),
  (1337, .if_icmp .eq (598), 3, 1935, 0, 0, 0, 0, []),
  (1340, .iconst (0), 1, 0, 0, 0, (0), 0, []),
  (1341, .ireturn, 1, 0, 0, 0, 0, 0, [])]
set_option maxRecDepth 100000 in
theorem lL_law_1309_ck : lL_law_1309.all (ra_ck mL_law 13) = true := by decide +kernel
def nL_law_1309 (N : Nat) (c18 : UInt32 → Nat → Nat → Int32 → ra_H → Option (Int32 × ra_H)) (a0 : UInt32) (a1 : Nat) (a2 : Nat) (a3 : Int32) (h : ra_H) : Option (Int32 × ra_H) :=
  (ra_xI h a0 (a3 + ((1 : Int32)))).bind fun x1 =>
  (ra_xI h a0 (a3 + ((2 : Int32)))).bind fun x2 =>
  (fX11_close N a1 x1 x2 h).bind fun q3 =>
  (ra_xI q3.2 a0 (a3 + ((1 : Int32)))).bind fun x4 =>
  (ra_xI q3.2 a0 (a3 + ((2 : Int32)))).bind fun x5 =>
  (fX12_close N a2 x4 x5 q3.2).bind fun q6 =>
  if q3.1 = q6.1 then
    nL_law_1935 N c18 a0 a1 a2 a3 q6.2
  else
    some ((0 : Int32), q6.2)
def kL_law_1309 (N : Nat) (c18 : UInt32 → Nat → Nat → Int32 → ra_H → Option (Int32 × ra_H)) : Nat → List (Option Value) → List Value → ra_H → Option (Int32 × ra_H) := (ra_k1 1935 (fun L S h => match L, S with
  | [some (.float a0), some (.ref a1), some (.ref a2), some (.int a3)], [] => nL_law_1935 N c18 a0 a1 a2 a3 h
  | _, _ => none) ra_k0)
theorem kL_law_1309_ok (N : Nat) (c18 : UInt32 → Nat → Nat → Int32 → ra_H → Option (Int32 × ra_H)) (hc18 : ∀ a0 a1 a2 a3 h r, c18 a0 a1 a2 a3 h = some r → ra_Ru 95 mL_law 18 [some (.float a0), some (.ref a1), some (.ref a2), some (.int a3)] [] h (ra_oI r)) : ra_kok 95 mL_law ra_oI (kL_law_1309 N c18) := (ra_k1_ok (by
  intro L S h a e
  split at e
  · exact ra_Ru.weak (nL_law_1935_ok N c18 hc18 _ _ _ _ _ _ e) ⟨rfl, ⟨rfl, ⟨rfl, ⟨rfl, trivial⟩⟩⟩⟩
  · cases e) ra_k0_ok)
set_option maxRecDepth 100000 in
theorem nL_law_1309_ok (N : Nat) (c18 : UInt32 → Nat → Nat → Int32 → ra_H → Option (Int32 × ra_H)) (hc18 : ∀ a0 a1 a2 a3 h r, c18 a0 a1 a2 a3 h = some r → ra_Ru 95 mL_law 18 [some (.float a0), some (.ref a1), some (.ref a2), some (.int a3)] [] h (ra_oI r)) (a0 : UInt32) (a1 : Nat) (a2 : Nat) (a3 : Int32) (h : ra_H) (r : (Int32 × ra_H)) (e : nL_law_1309 N c18 a0 a1 a2 a3 h = some r) : ra_Ru 95 mL_law 1309 [some (.float a0), some (.ref a1), some (.ref a2), some (.int a3)] [] h (ra_oI r) :=
  ra_sound (by omega) rfl ra_rI_ok (kL_law_1309_ok N c18 hc18) (fun m av h h1 e => (tVL_law_ok N) m av h h1 e) (fun m av h x h1 e => (tIL_law_ok N) m av h (x, h1) e) (fun m av h x h1 e => (ra_c0_ok (ro := ra_oJ)) m av h (x, h1) e) (fun m av h x h1 e => (ra_c0_ok (ro := ra_oR)) m av h (x, h1) e) (fun m av h x h1 e => (ra_c0_ok (ro := ra_oN)) m av h (x, h1) e) (fun m av h x h1 e => (ra_c0_ok (ro := ra_oF)) m av h (x, h1) e) 28 lL_law_1309 _ _ _ _ lL_law_1309_ck (show ra_run ra_rI (kL_law_1309 N c18) (tVL_law N) (tIL_law N) ra_c0 ra_c0 ra_c0 ra_c0 28 lL_law_1309 [some (.float a0), some (.ref a1), some (.ref a2), some (.int a3)] [] h = some r from e) _ _ rfl
def lL_law_1342 : List ra_I := [(1342, .aload_n 1, 1, 1, 0, 0, 0, 0, []),
  (1343, .aload_n 0, 1, 0, 0, 0, 0, 0, []),
  (1344, .iload_n 3, 1, 3, 0, 0, 0, 0, []),
  (1345, .iconst (1), 1, 0, 0, 0, (1), 0, []),
  (1346, .iadd, 1, 0, 0, 0, 0, 0, []),
  (1347, .iaload, 1, 0, 0, 0, 0, 0, []),
  (1348, .aload_n 0, 1, 0, 0, 0, 0, 0, []),
  (1349, .iload_n 3, 1, 3, 0, 0, 0, 0, []),
  (1350, .iconst (2), 1, 0, 0, 0, (2), 0, []),
  (1351, .iadd, 1, 0, 0, 0, 0, 0, []),
  (1352, .iaload, 1, 0, 0, 0, 0, 0, []),
  (1353, .invokevirtual 139, 3, 166, 3, 1, 0, 0, []),
  (1356, .aload_n 2, 1, 2, 0, 0, 0, 0, []),
  (1357, .aload_n 0, 1, 0, 0, 0, 0, 0, []),
  (1358, .iload_n 3, 1, 3, 0, 0, 0, 0, []),
  (1359, .iconst (1), 1, 0, 0, 0, (1), 0, []),
  (1360, .iadd, 1, 0, 0, 0, 0, 0, []),
  (1361, .iaload, 1, 0, 0, 0, 0, 0, []),
  (1362, .aload_n 0, 1, 0, 0, 0, 0, 0, []),
  (1363, .iload_n 3, 1, 3, 0, 0, 0, 0, []),
  (1364, .iconst (2), 1, 0, 0, 0, (2), 0, []),
  (1365, .iadd, 1, 0, 0, 0, 0, 0, []),
  (1366, .iaload, 1, 0, 0, 0, 0, 0, []),
  (1367, .invokevirtual 142, 3, 283, 3, 1, 0, 0, []),
  (1370, .if_icmp .eq (565), 3, 1935, 0, 0, 0, 0, []),
  (1373, .iconst (0), 1, 0, 0, 0, (0), 0, []),
  (1374, .ireturn, 1, 0, 0, 0, 0, 0, [])]
set_option maxRecDepth 100000 in
theorem lL_law_1342_ck : lL_law_1342.all (ra_ck mL_law 13) = true := by decide +kernel
def nL_law_1342 (N : Nat) (c18 : UInt32 → Nat → Nat → Int32 → ra_H → Option (Int32 × ra_H)) (a0 : UInt32) (a1 : Nat) (a2 : Nat) (a3 : Int32) (h : ra_H) : Option (Int32 × ra_H) :=
  (ra_xI h a0 (a3 + ((1 : Int32)))).bind fun x1 =>
  (ra_xI h a0 (a3 + ((2 : Int32)))).bind fun x2 =>
  (fX11_agree N a1 x1 x2 h).bind fun q3 =>
  (ra_xI q3.2 a0 (a3 + ((1 : Int32)))).bind fun x4 =>
  (ra_xI q3.2 a0 (a3 + ((2 : Int32)))).bind fun x5 =>
  (fX12_agree N a2 x4 x5 q3.2).bind fun q6 =>
  if q3.1 = q6.1 then
    nL_law_1935 N c18 a0 a1 a2 a3 q6.2
  else
    some ((0 : Int32), q6.2)
def kL_law_1342 (N : Nat) (c18 : UInt32 → Nat → Nat → Int32 → ra_H → Option (Int32 × ra_H)) : Nat → List (Option Value) → List Value → ra_H → Option (Int32 × ra_H) := (ra_k1 1935 (fun L S h => match L, S with
  | [some (.float a0), some (.ref a1), some (.ref a2), some (.int a3)], [] => nL_law_1935 N c18 a0 a1 a2 a3 h
  | _, _ => none) ra_k0)
theorem kL_law_1342_ok (N : Nat) (c18 : UInt32 → Nat → Nat → Int32 → ra_H → Option (Int32 × ra_H)) (hc18 : ∀ a0 a1 a2 a3 h r, c18 a0 a1 a2 a3 h = some r → ra_Ru 95 mL_law 18 [some (.float a0), some (.ref a1), some (.ref a2), some (.int a3)] [] h (ra_oI r)) : ra_kok 95 mL_law ra_oI (kL_law_1342 N c18) := (ra_k1_ok (by
  intro L S h a e
  split at e
  · exact ra_Ru.weak (nL_law_1935_ok N c18 hc18 _ _ _ _ _ _ e) ⟨rfl, ⟨rfl, ⟨rfl, ⟨rfl, trivial⟩⟩⟩⟩
  · cases e) ra_k0_ok)
set_option maxRecDepth 100000 in
theorem nL_law_1342_ok (N : Nat) (c18 : UInt32 → Nat → Nat → Int32 → ra_H → Option (Int32 × ra_H)) (hc18 : ∀ a0 a1 a2 a3 h r, c18 a0 a1 a2 a3 h = some r → ra_Ru 95 mL_law 18 [some (.float a0), some (.ref a1), some (.ref a2), some (.int a3)] [] h (ra_oI r)) (a0 : UInt32) (a1 : Nat) (a2 : Nat) (a3 : Int32) (h : ra_H) (r : (Int32 × ra_H)) (e : nL_law_1342 N c18 a0 a1 a2 a3 h = some r) : ra_Ru 95 mL_law 1342 [some (.float a0), some (.ref a1), some (.ref a2), some (.int a3)] [] h (ra_oI r) :=
  ra_sound (by omega) rfl ra_rI_ok (kL_law_1342_ok N c18 hc18) (fun m av h h1 e => (tVL_law_ok N) m av h h1 e) (fun m av h x h1 e => (tIL_law_ok N) m av h (x, h1) e) (fun m av h x h1 e => (ra_c0_ok (ro := ra_oJ)) m av h (x, h1) e) (fun m av h x h1 e => (ra_c0_ok (ro := ra_oR)) m av h (x, h1) e) (fun m av h x h1 e => (ra_c0_ok (ro := ra_oN)) m av h (x, h1) e) (fun m av h x h1 e => (ra_c0_ok (ro := ra_oF)) m av h (x, h1) e) 28 lL_law_1342 _ _ _ _ lL_law_1342_ck (show ra_run ra_rI (kL_law_1342 N c18) (tVL_law N) (tIL_law N) ra_c0 ra_c0 ra_c0 ra_c0 28 lL_law_1342 [some (.float a0), some (.ref a1), some (.ref a2), some (.int a3)] [] h = some r from e) _ _ rfl
def lL_law_1375 : List ra_I := [(1375, .aload_n 1, 1, 1, 0, 0, 0, 0, []),
  (1376, .aload_n 0, 1, 0, 0, 0, 0, 0, []),
  (1377, .iload_n 3, 1, 3, 0, 0, 0, 0, []),
  (1378, .iconst (1), 1, 0, 0, 0, (1), 0, []),
  (1379, .iadd, 1, 0, 0, 0, 0, 0, []),
  (1380, .iaload, 1, 0, 0, 0, 0, 0, []),
  (1381, .invokevirtual 143, 3, 167, 2, 1, 0, 0, []),
  (1384, .aload_n 2, 1, 2, 0, 0, 0, 0, []),
  (1385, .aload_n 0, 1, 0, 0, 0, 0, 0, []),
  (1386, .iload_n 3, 1, 3, 0, 0, 0, 0, []),
  (1387, .iconst (1), 1, 0, 0, 0, (1), 0, []),
  (1388, .iadd, 1, 0, 0, 0, 0, 0, []),
  (1389, .iaload, 1, 0, 0, 0, 0, 0, []),
  (1390, .invokevirtual 146, 3, 285, 2, 1, 0, 0, []),
  (1393, .if_icmp .eq (542), 3, 1935, 0, 0, 0, 0, []),
  (1396, .iconst (0), 1, 0, 0, 0, (0), 0, []),
  (1397, .ireturn, 1, 0, 0, 0, 0, 0, [])]
set_option maxRecDepth 100000 in
theorem lL_law_1375_ck : lL_law_1375.all (ra_ck mL_law 13) = true := by decide +kernel
def nL_law_1375 (N : Nat) (c18 : UInt32 → Nat → Nat → Int32 → ra_H → Option (Int32 × ra_H)) (a0 : UInt32) (a1 : Nat) (a2 : Nat) (a3 : Int32) (h : ra_H) : Option (Int32 × ra_H) :=
  (ra_xI h a0 (a3 + ((1 : Int32)))).bind fun x1 =>
  (fX11_match N a1 x1 h).bind fun q2 =>
  (ra_xI q2.2 a0 (a3 + ((1 : Int32)))).bind fun x3 =>
  (fX12_match N a2 x3 q2.2).bind fun q4 =>
  if q2.1 = q4.1 then
    nL_law_1935 N c18 a0 a1 a2 a3 q4.2
  else
    some ((0 : Int32), q4.2)
def kL_law_1375 (N : Nat) (c18 : UInt32 → Nat → Nat → Int32 → ra_H → Option (Int32 × ra_H)) : Nat → List (Option Value) → List Value → ra_H → Option (Int32 × ra_H) := (ra_k1 1935 (fun L S h => match L, S with
  | [some (.float a0), some (.ref a1), some (.ref a2), some (.int a3)], [] => nL_law_1935 N c18 a0 a1 a2 a3 h
  | _, _ => none) ra_k0)
theorem kL_law_1375_ok (N : Nat) (c18 : UInt32 → Nat → Nat → Int32 → ra_H → Option (Int32 × ra_H)) (hc18 : ∀ a0 a1 a2 a3 h r, c18 a0 a1 a2 a3 h = some r → ra_Ru 95 mL_law 18 [some (.float a0), some (.ref a1), some (.ref a2), some (.int a3)] [] h (ra_oI r)) : ra_kok 95 mL_law ra_oI (kL_law_1375 N c18) := (ra_k1_ok (by
  intro L S h a e
  split at e
  · exact ra_Ru.weak (nL_law_1935_ok N c18 hc18 _ _ _ _ _ _ e) ⟨rfl, ⟨rfl, ⟨rfl, ⟨rfl, trivial⟩⟩⟩⟩
  · cases e) ra_k0_ok)
set_option maxRecDepth 100000 in
theorem nL_law_1375_ok (N : Nat) (c18 : UInt32 → Nat → Nat → Int32 → ra_H → Option (Int32 × ra_H)) (hc18 : ∀ a0 a1 a2 a3 h r, c18 a0 a1 a2 a3 h = some r → ra_Ru 95 mL_law 18 [some (.float a0), some (.ref a1), some (.ref a2), some (.int a3)] [] h (ra_oI r)) (a0 : UInt32) (a1 : Nat) (a2 : Nat) (a3 : Int32) (h : ra_H) (r : (Int32 × ra_H)) (e : nL_law_1375 N c18 a0 a1 a2 a3 h = some r) : ra_Ru 95 mL_law 1375 [some (.float a0), some (.ref a1), some (.ref a2), some (.int a3)] [] h (ra_oI r) :=
  ra_sound (by omega) rfl ra_rI_ok (kL_law_1375_ok N c18 hc18) (fun m av h h1 e => (tVL_law_ok N) m av h h1 e) (fun m av h x h1 e => (tIL_law_ok N) m av h (x, h1) e) (fun m av h x h1 e => (ra_c0_ok (ro := ra_oJ)) m av h (x, h1) e) (fun m av h x h1 e => (ra_c0_ok (ro := ra_oR)) m av h (x, h1) e) (fun m av h x h1 e => (ra_c0_ok (ro := ra_oN)) m av h (x, h1) e) (fun m av h x h1 e => (ra_c0_ok (ro := ra_oF)) m av h (x, h1) e) 18 lL_law_1375 _ _ _ _ lL_law_1375_ck (show ra_run ra_rI (kL_law_1375 N c18) (tVL_law N) (tIL_law N) ra_c0 ra_c0 ra_c0 ra_c0 18 lL_law_1375 [some (.float a0), some (.ref a1), some (.ref a2), some (.int a3)] [] h = some r from e) _ _ rfl
def lL_law_1398 : List ra_I := [(1398, .aload_n 1, 1, 1, 0, 0, 0, 0, []),
  (1399, .aload_n 0, 1, 0, 0, 0, 0, 0, []),
  (1400, .iload_n 3, 1, 3, 0, 0, 0, 0, []),
  (1401, .iconst (1), 1, 0, 0, 0, (1), 0, []),
  (1402, .iadd, 1, 0, 0, 0, 0, 0, []),
  (1403, .iaload, 1, 0, 0, 0, 0, 0, []),
  (1404, .aload_n 0, 1, 0, 0, 0, 0, 0, []),
  (1405, .iload_n 3, 1, 3, 0, 0, 0, 0, []),
  (1406, .iconst (2), 1, 0, 0, 0, (2), 0, []),
  (1407, .iadd, 1, 0, 0, 0, 0, 0, []),
  (1408, .iaload, 1, 0, 0, 0, 0, 0, []),
  (1409, .invokevirtual 147, 3, 168, 3, 1, 0, 0, []),
  (1412, .aload_n 2, 1, 2, 0, 0, 0, 0, []),
  (1413, .aload_n 0, 1, 0, 0, 0, 0, 0, []),
  (1414, .iload_n 3, 1, 3, 0, 0, 0, 0, []),
  (1415, .iconst (1), 1, 0, 0, 0, (1), 0, []),
  (1416, .iadd, 1, 0, 0, 0, 0, 0, []),
  (1417, .iaload, 1, 0, 0, 0, 0, 0, []),
  (1418, .aload_n 0, 1, 0, 0, 0, 0, 0, []),
  (1419, .iload_n 3, 1, 3, 0, 0, 0, 0, []),
  (1420, .iconst (2), 1, 0, 0, 0, (2), 0, []),
  (1421, .iadd, 1, 0, 0, 0, 0, 0, []),
  (1422, .iaload, 1, 0, 0, 0, 0, 0, []),
  (1423, .invokevirtual 150, 3, 293, 3, 1, 0, 0, []),
  (1426, .if_icmp .eq (509), 3, 1935, 0, 0, 0, 0, []),
  (1429, .iconst (0), 1, 0, 0, 0, (0), 0, []),
  (1430, .ireturn, 1, 0, 0, 0, 0, 0, [])]
set_option maxRecDepth 100000 in
theorem lL_law_1398_ck : lL_law_1398.all (ra_ck mL_law 13) = true := by decide +kernel
def nL_law_1398 (N : Nat) (c18 : UInt32 → Nat → Nat → Int32 → ra_H → Option (Int32 × ra_H)) (a0 : UInt32) (a1 : Nat) (a2 : Nat) (a3 : Int32) (h : ra_H) : Option (Int32 × ra_H) :=
  (ra_xI h a0 (a3 + ((1 : Int32)))).bind fun x1 =>
  (ra_xI h a0 (a3 + ((2 : Int32)))).bind fun x2 =>
  (fX11_matched N a1 x1 x2 h).bind fun q3 =>
  (ra_xI q3.2 a0 (a3 + ((1 : Int32)))).bind fun x4 =>
  (ra_xI q3.2 a0 (a3 + ((2 : Int32)))).bind fun x5 =>
  (fX12_matched N a2 x4 x5 q3.2).bind fun q6 =>
  if q3.1 = q6.1 then
    nL_law_1935 N c18 a0 a1 a2 a3 q6.2
  else
    some ((0 : Int32), q6.2)
def kL_law_1398 (N : Nat) (c18 : UInt32 → Nat → Nat → Int32 → ra_H → Option (Int32 × ra_H)) : Nat → List (Option Value) → List Value → ra_H → Option (Int32 × ra_H) := (ra_k1 1935 (fun L S h => match L, S with
  | [some (.float a0), some (.ref a1), some (.ref a2), some (.int a3)], [] => nL_law_1935 N c18 a0 a1 a2 a3 h
  | _, _ => none) ra_k0)
theorem kL_law_1398_ok (N : Nat) (c18 : UInt32 → Nat → Nat → Int32 → ra_H → Option (Int32 × ra_H)) (hc18 : ∀ a0 a1 a2 a3 h r, c18 a0 a1 a2 a3 h = some r → ra_Ru 95 mL_law 18 [some (.float a0), some (.ref a1), some (.ref a2), some (.int a3)] [] h (ra_oI r)) : ra_kok 95 mL_law ra_oI (kL_law_1398 N c18) := (ra_k1_ok (by
  intro L S h a e
  split at e
  · exact ra_Ru.weak (nL_law_1935_ok N c18 hc18 _ _ _ _ _ _ e) ⟨rfl, ⟨rfl, ⟨rfl, ⟨rfl, trivial⟩⟩⟩⟩
  · cases e) ra_k0_ok)
set_option maxRecDepth 100000 in
theorem nL_law_1398_ok (N : Nat) (c18 : UInt32 → Nat → Nat → Int32 → ra_H → Option (Int32 × ra_H)) (hc18 : ∀ a0 a1 a2 a3 h r, c18 a0 a1 a2 a3 h = some r → ra_Ru 95 mL_law 18 [some (.float a0), some (.ref a1), some (.ref a2), some (.int a3)] [] h (ra_oI r)) (a0 : UInt32) (a1 : Nat) (a2 : Nat) (a3 : Int32) (h : ra_H) (r : (Int32 × ra_H)) (e : nL_law_1398 N c18 a0 a1 a2 a3 h = some r) : ra_Ru 95 mL_law 1398 [some (.float a0), some (.ref a1), some (.ref a2), some (.int a3)] [] h (ra_oI r) :=
  ra_sound (by omega) rfl ra_rI_ok (kL_law_1398_ok N c18 hc18) (fun m av h h1 e => (tVL_law_ok N) m av h h1 e) (fun m av h x h1 e => (tIL_law_ok N) m av h (x, h1) e) (fun m av h x h1 e => (ra_c0_ok (ro := ra_oJ)) m av h (x, h1) e) (fun m av h x h1 e => (ra_c0_ok (ro := ra_oR)) m av h (x, h1) e) (fun m av h x h1 e => (ra_c0_ok (ro := ra_oN)) m av h (x, h1) e) (fun m av h x h1 e => (ra_c0_ok (ro := ra_oF)) m av h (x, h1) e) 28 lL_law_1398 _ _ _ _ lL_law_1398_ck (show ra_run ra_rI (kL_law_1398 N c18) (tVL_law N) (tIL_law N) ra_c0 ra_c0 ra_c0 ra_c0 28 lL_law_1398 [some (.float a0), some (.ref a1), some (.ref a2), some (.int a3)] [] h = some r from e) _ _ rfl
def lL_law_1431 : List ra_I := [(1431, .aload_n 1, 1, 1, 0, 0, 0, 0, []),
  (1432, .aload_n 0, 1, 0, 0, 0, 0, 0, []),
  (1433, .iload_n 3, 1, 3, 0, 0, 0, 0, []),
  (1434, .iconst (1), 1, 0, 0, 0, (1), 0, []),
  (1435, .iadd, 1, 0, 0, 0, 0, 0, []),
  (1436, .iaload, 1, 0, 0, 0, 0, 0, []),
  (1437, .aload_n 0, 1, 0, 0, 0, 0, 0, []),
  (1438, .iload_n 3, 1, 3, 0, 0, 0, 0, []),
  (1439, .iconst (2), 1, 0, 0, 0, (2), 0, []),
  (1440, .iadd, 1, 0, 0, 0, 0, 0, []),
  (1441, .iaload, 1, 0, 0, 0, 0, 0, []),
  (1442, .aload_n 0, 1, 0, 0, 0, 0, 0, []),
  (1443, .iload_n 3, 1, 3, 0, 0, 0, 0, []),
  (1444, .iconst (3), 1, 0, 0, 0, (3), 0, []),
  (1445, .iadd, 1, 0, 0, 0, 0, 0, []),
  (1446, .iaload, 1, 0, 0, 0, 0, 0, []),
  (1447, .invokevirtual 151, 3, 169, 4, 1, 0, 0, []),
  (1450, .aload_n 2, 1, 2, 0, 0, 0, 0, []),
  (1451, .aload_n 0, 1, 0, 0, 0, 0, 0, []),
  (1452, .iload_n 3, 1, 3, 0, 0, 0, 0, []),
  (1453, .iconst (1), 1, 0, 0, 0, (1), 0, []),
  (1454, .iadd, 1, 0, 0, 0, 0, 0, []),
  (1455, .iaload, 1, 0, 0, 0, 0, 0, []),
  (1456, .aload_n 0, 1, 0, 0, 0, 0, 0, []),
  (1457, .iload_n 3, 1, 3, 0, 0, 0, 0, []),
  (1458, .iconst (2), 1, 0, 0, 0, (2), 0, []),
  (1459, .iadd, 1, 0, 0, 0, 0, 0, []),
  (1460, .iaload, 1, 0, 0, 0, 0, 0, []),
  (1461, .aload_n 0, 1, 0, 0, 0, 0, 0, []),
  (1462, .iload_n 3, 1, 3, 0, 0, 0, 0, []),
  (1463, .iconst (3), 1, 0, 0, 0, (3), 0, []),
  (1464, .iadd, 1, 0, 0, 0, 0, 0, []),
  (1465, .iaload, 1, 0, 0, 0, 0, 0, []),
  (1466, .invokevirtual 154, 3, 300, 4, 1, 0, 0, []),
  (1469, .if_icmp .eq (466), 3, 1935, 0, 0, 0, 0, []),
  (1472, .iconst (0), 1, 0, 0, 0, (0), 0, []),
  (1473, .ireturn, 1, 0, 0, 0, 0, 0, [])]
set_option maxRecDepth 100000 in
theorem lL_law_1431_ck : lL_law_1431.all (ra_ck mL_law 13) = true := by decide +kernel
def nL_law_1431 (N : Nat) (c18 : UInt32 → Nat → Nat → Int32 → ra_H → Option (Int32 × ra_H)) (a0 : UInt32) (a1 : Nat) (a2 : Nat) (a3 : Int32) (h : ra_H) : Option (Int32 × ra_H) :=
  (ra_xI h a0 (a3 + ((1 : Int32)))).bind fun x1 =>
  (ra_xI h a0 (a3 + ((2 : Int32)))).bind fun x2 =>
  (ra_xI h a0 (a3 + ((3 : Int32)))).bind fun x3 =>
  (fX11_ours N a1 x1 x2 x3 h).bind fun q4 =>
  (ra_xI q4.2 a0 (a3 + ((1 : Int32)))).bind fun x5 =>
  (ra_xI q4.2 a0 (a3 + ((2 : Int32)))).bind fun x6 =>
  (ra_xI q4.2 a0 (a3 + ((3 : Int32)))).bind fun x7 =>
  (fX12_ours N a2 x5 x6 x7 q4.2).bind fun q8 =>
  if q4.1 = q8.1 then
    nL_law_1935 N c18 a0 a1 a2 a3 q8.2
  else
    some ((0 : Int32), q8.2)
def kL_law_1431 (N : Nat) (c18 : UInt32 → Nat → Nat → Int32 → ra_H → Option (Int32 × ra_H)) : Nat → List (Option Value) → List Value → ra_H → Option (Int32 × ra_H) := (ra_k1 1935 (fun L S h => match L, S with
  | [some (.float a0), some (.ref a1), some (.ref a2), some (.int a3)], [] => nL_law_1935 N c18 a0 a1 a2 a3 h
  | _, _ => none) ra_k0)
theorem kL_law_1431_ok (N : Nat) (c18 : UInt32 → Nat → Nat → Int32 → ra_H → Option (Int32 × ra_H)) (hc18 : ∀ a0 a1 a2 a3 h r, c18 a0 a1 a2 a3 h = some r → ra_Ru 95 mL_law 18 [some (.float a0), some (.ref a1), some (.ref a2), some (.int a3)] [] h (ra_oI r)) : ra_kok 95 mL_law ra_oI (kL_law_1431 N c18) := (ra_k1_ok (by
  intro L S h a e
  split at e
  · exact ra_Ru.weak (nL_law_1935_ok N c18 hc18 _ _ _ _ _ _ e) ⟨rfl, ⟨rfl, ⟨rfl, ⟨rfl, trivial⟩⟩⟩⟩
  · cases e) ra_k0_ok)
set_option maxRecDepth 100000 in
theorem nL_law_1431_ok (N : Nat) (c18 : UInt32 → Nat → Nat → Int32 → ra_H → Option (Int32 × ra_H)) (hc18 : ∀ a0 a1 a2 a3 h r, c18 a0 a1 a2 a3 h = some r → ra_Ru 95 mL_law 18 [some (.float a0), some (.ref a1), some (.ref a2), some (.int a3)] [] h (ra_oI r)) (a0 : UInt32) (a1 : Nat) (a2 : Nat) (a3 : Int32) (h : ra_H) (r : (Int32 × ra_H)) (e : nL_law_1431 N c18 a0 a1 a2 a3 h = some r) : ra_Ru 95 mL_law 1431 [some (.float a0), some (.ref a1), some (.ref a2), some (.int a3)] [] h (ra_oI r) :=
  ra_sound (by omega) rfl ra_rI_ok (kL_law_1431_ok N c18 hc18) (fun m av h h1 e => (tVL_law_ok N) m av h h1 e) (fun m av h x h1 e => (tIL_law_ok N) m av h (x, h1) e) (fun m av h x h1 e => (ra_c0_ok (ro := ra_oJ)) m av h (x, h1) e) (fun m av h x h1 e => (ra_c0_ok (ro := ra_oR)) m av h (x, h1) e) (fun m av h x h1 e => (ra_c0_ok (ro := ra_oN)) m av h (x, h1) e) (fun m av h x h1 e => (ra_c0_ok (ro := ra_oF)) m av h (x, h1) e) 38 lL_law_1431 _ _ _ _ lL_law_1431_ck (show ra_run ra_rI (kL_law_1431 N c18) (tVL_law N) (tIL_law N) ra_c0 ra_c0 ra_c0 ra_c0 38 lL_law_1431 [some (.float a0), some (.ref a1), some (.ref a2), some (.int a3)] [] h = some r from e) _ _ rfl
def lL_law_1474 : List ra_I := [(1474, .aload_n 1, 1, 1, 0, 0, 0, 0, []),
  (1475, .aload_n 0, 1, 0, 0, 0, 0, 0, []),
  (1476, .iload_n 3, 1, 3, 0, 0, 0, 0, []),
  (1477, .iconst (1), 1, 0, 0, 0, (1), 0, []),
  (1478, .iadd, 1, 0, 0, 0, 0, 0, []),
  (1479, .iaload, 1, 0, 0, 0, 0, 0, []),
  (1480, .aload_n 0, 1, 0, 0, 0, 0, 0, []),
  (1481, .iload_n 3, 1, 3, 0, 0, 0, 0, []),
  (1482, .iconst (2), 1, 0, 0, 0, (2), 0, []),
  (1483, .iadd, 1, 0, 0, 0, 0, 0, []),
  (1484, .iaload, 1, 0, 0, 0, 0, 0, []),
  (1485, .aload_n 0, 1, 0, 0, 0, 0, 0, []),
  (1486, .iload_n 3, 1, 3, 0, 0, 0, 0, []),
  (1487, .iconst (3), 1, 0, 0, 0, (3), 0, []),
  (1488, .iadd, 1, 0, 0, 0, 0, 0, []),
  (1489, .iaload, 1, 0, 0, 0, 0, 0, []),
  (1490, .invokevirtual 155, 3, 171, 4, 1, 0, 0, []),
  (1493, .aload_n 2, 1, 2, 0, 0, 0, 0, []),
  (1494, .aload_n 0, 1, 0, 0, 0, 0, 0, []),
  (1495, .iload_n 3, 1, 3, 0, 0, 0, 0, []),
  (1496, .iconst (1), 1, 0, 0, 0, (1), 0, []),
  (1497, .iadd, 1, 0, 0, 0, 0, 0, []),
  (1498, .iaload, 1, 0, 0, 0, 0, 0, []),
  (1499, .aload_n 0, 1, 0, 0, 0, 0, 0, []),
  (1500, .iload_n 3, 1, 3, 0, 0, 0, 0, []),
  (1501, .iconst (2), 1, 0, 0, 0, (2), 0, []),
  (1502, .iadd, 1, 0, 0, 0, 0, 0, []),
  (1503, .iaload, 1, 0, 0, 0, 0, 0, []),
  (1504, .aload_n 0, 1, 0, 0, 0, 0, 0, []),
  (1505, .iload_n 3, 1, 3, 0, 0, 0, 0, []),
  (1506, .iconst (3), 1, 0, 0, 0, (3), 0, []),
  (1507, .iadd, 1, 0, 0, 0, 0, 0, []),
  (1508, .iaload, 1, 0, 0, 0, 0, 0, []),
  (1509, .invokevirtual 158, 3, 302, 4, 1, 0, 0, []),
  (1512, .if_icmp .eq (423), 3, 1935, 0, 0, 0, 0, []),
  (1515, .iconst (0), 1, 0, 0, 0, (0), 0, []),
  (1516, .ireturn, 1, 0, 0, 0, 0, 0, [])]
set_option maxRecDepth 100000 in
theorem lL_law_1474_ck : lL_law_1474.all (ra_ck mL_law 13) = true := by decide +kernel
def nL_law_1474 (N : Nat) (c18 : UInt32 → Nat → Nat → Int32 → ra_H → Option (Int32 × ra_H)) (a0 : UInt32) (a1 : Nat) (a2 : Nat) (a3 : Int32) (h : ra_H) : Option (Int32 × ra_H) :=
  (ra_xI h a0 (a3 + ((1 : Int32)))).bind fun x1 =>
  (ra_xI h a0 (a3 + ((2 : Int32)))).bind fun x2 =>
  (ra_xI h a0 (a3 + ((3 : Int32)))).bind fun x3 =>
  (fX11_untrue N a1 x1 x2 x3 h).bind fun q4 =>
  (ra_xI q4.2 a0 (a3 + ((1 : Int32)))).bind fun x5 =>
  (ra_xI q4.2 a0 (a3 + ((2 : Int32)))).bind fun x6 =>
  (ra_xI q4.2 a0 (a3 + ((3 : Int32)))).bind fun x7 =>
  (fX12_untrue N a2 x5 x6 x7 q4.2).bind fun q8 =>
  if q4.1 = q8.1 then
    nL_law_1935 N c18 a0 a1 a2 a3 q8.2
  else
    some ((0 : Int32), q8.2)
def kL_law_1474 (N : Nat) (c18 : UInt32 → Nat → Nat → Int32 → ra_H → Option (Int32 × ra_H)) : Nat → List (Option Value) → List Value → ra_H → Option (Int32 × ra_H) := (ra_k1 1935 (fun L S h => match L, S with
  | [some (.float a0), some (.ref a1), some (.ref a2), some (.int a3)], [] => nL_law_1935 N c18 a0 a1 a2 a3 h
  | _, _ => none) ra_k0)
theorem kL_law_1474_ok (N : Nat) (c18 : UInt32 → Nat → Nat → Int32 → ra_H → Option (Int32 × ra_H)) (hc18 : ∀ a0 a1 a2 a3 h r, c18 a0 a1 a2 a3 h = some r → ra_Ru 95 mL_law 18 [some (.float a0), some (.ref a1), some (.ref a2), some (.int a3)] [] h (ra_oI r)) : ra_kok 95 mL_law ra_oI (kL_law_1474 N c18) := (ra_k1_ok (by
  intro L S h a e
  split at e
  · exact ra_Ru.weak (nL_law_1935_ok N c18 hc18 _ _ _ _ _ _ e) ⟨rfl, ⟨rfl, ⟨rfl, ⟨rfl, trivial⟩⟩⟩⟩
  · cases e) ra_k0_ok)
set_option maxRecDepth 100000 in
theorem nL_law_1474_ok (N : Nat) (c18 : UInt32 → Nat → Nat → Int32 → ra_H → Option (Int32 × ra_H)) (hc18 : ∀ a0 a1 a2 a3 h r, c18 a0 a1 a2 a3 h = some r → ra_Ru 95 mL_law 18 [some (.float a0), some (.ref a1), some (.ref a2), some (.int a3)] [] h (ra_oI r)) (a0 : UInt32) (a1 : Nat) (a2 : Nat) (a3 : Int32) (h : ra_H) (r : (Int32 × ra_H)) (e : nL_law_1474 N c18 a0 a1 a2 a3 h = some r) : ra_Ru 95 mL_law 1474 [some (.float a0), some (.ref a1), some (.ref a2), some (.int a3)] [] h (ra_oI r) :=
  ra_sound (by omega) rfl ra_rI_ok (kL_law_1474_ok N c18 hc18) (fun m av h h1 e => (tVL_law_ok N) m av h h1 e) (fun m av h x h1 e => (tIL_law_ok N) m av h (x, h1) e) (fun m av h x h1 e => (ra_c0_ok (ro := ra_oJ)) m av h (x, h1) e) (fun m av h x h1 e => (ra_c0_ok (ro := ra_oR)) m av h (x, h1) e) (fun m av h x h1 e => (ra_c0_ok (ro := ra_oN)) m av h (x, h1) e) (fun m av h x h1 e => (ra_c0_ok (ro := ra_oF)) m av h (x, h1) e) 38 lL_law_1474 _ _ _ _ lL_law_1474_ck (show ra_run ra_rI (kL_law_1474 N c18) (tVL_law N) (tIL_law N) ra_c0 ra_c0 ra_c0 ra_c0 38 lL_law_1474 [some (.float a0), some (.ref a1), some (.ref a2), some (.int a3)] [] h = some r from e) _ _ rfl
def lL_law_1517 : List ra_I := [(1517, .aload_n 1, 1, 1, 0, 0, 0, 0, []),
  (1518, .aload_n 0, 1, 0, 0, 0, 0, 0, []),
  (1519, .iload_n 3, 1, 3, 0, 0, 0, 0, []),
  (1520, .iconst (1), 1, 0, 0, 0, (1), 0, []),
  (1521, .iadd, 1, 0, 0, 0, 0, 0, []),
  (1522, .iaload, 1, 0, 0, 0, 0, 0, []),
  (1523, .aload_n 0, 1, 0, 0, 0, 0, 0, []),
  (1524, .iload_n 3, 1, 3, 0, 0, 0, 0, []),
  (1525, .iconst (2), 1, 0, 0, 0, (2), 0, []),
  (1526, .iadd, 1, 0, 0, 0, 0, 0, []),
  (1527, .iaload, 1, 0, 0, 0, 0, 0, []),
  (1528, .invokevirtual 159, 3, 172, 3, 1, 0, 0, []),
  (1531, .aload_n 2, 1, 2, 0, 0, 0, 0, []),
  (1532, .aload_n 0, 1, 0, 0, 0, 0, 0, []),
  (1533, .iload_n 3, 1, 3, 0, 0, 0, 0, []),
  (1534, .iconst (1), 1, 0, 0, 0, (1), 0, []),
  (1535, .iadd, 1, 0, 0, 0, 0, 0, []),
  (1536, .iaload, 1, 0, 0, 0, 0, 0, []),
  (1537, .aload_n 0, 1, 0, 0, 0, 0, 0, []),
  (1538, .iload_n 3, 1, 3, 0, 0, 0, 0, []),
  (1539, .iconst (2), 1, 0, 0, 0, (2), 0, []),
  (1540, .iadd, 1, 0, 0, 0, 0, 0, []),
  (1541, .iaload, 1, 0, 0, 0, 0, 0, []),
  (1542, .invokevirtual 162, 3, 303, 3, 1, 0, 0, []),
  (1545, .if_icmp .eq (390), 3, 1935, 0, 0, 0, 0, []),
  (1548, .iconst (0), 1, 0, 0, 0, (0), 0, []),
  (1549, .ireturn, 1, 0, 0, 0, 0, 0, [])]
set_option maxRecDepth 100000 in
theorem lL_law_1517_ck : lL_law_1517.all (ra_ck mL_law 13) = true := by decide +kernel
def nL_law_1517 (N : Nat) (c18 : UInt32 → Nat → Nat → Int32 → ra_H → Option (Int32 × ra_H)) (a0 : UInt32) (a1 : Nat) (a2 : Nat) (a3 : Int32) (h : ra_H) : Option (Int32 × ra_H) :=
  (ra_xI h a0 (a3 + ((1 : Int32)))).bind fun x1 =>
  (ra_xI h a0 (a3 + ((2 : Int32)))).bind fun x2 =>
  (fX11_twice N a1 x1 x2 h).bind fun q3 =>
  (ra_xI q3.2 a0 (a3 + ((1 : Int32)))).bind fun x4 =>
  (ra_xI q3.2 a0 (a3 + ((2 : Int32)))).bind fun x5 =>
  (fX12_twice N a2 x4 x5 q3.2).bind fun q6 =>
  if q3.1 = q6.1 then
    nL_law_1935 N c18 a0 a1 a2 a3 q6.2
  else
    some ((0 : Int32), q6.2)
def kL_law_1517 (N : Nat) (c18 : UInt32 → Nat → Nat → Int32 → ra_H → Option (Int32 × ra_H)) : Nat → List (Option Value) → List Value → ra_H → Option (Int32 × ra_H) := (ra_k1 1935 (fun L S h => match L, S with
  | [some (.float a0), some (.ref a1), some (.ref a2), some (.int a3)], [] => nL_law_1935 N c18 a0 a1 a2 a3 h
  | _, _ => none) ra_k0)
theorem kL_law_1517_ok (N : Nat) (c18 : UInt32 → Nat → Nat → Int32 → ra_H → Option (Int32 × ra_H)) (hc18 : ∀ a0 a1 a2 a3 h r, c18 a0 a1 a2 a3 h = some r → ra_Ru 95 mL_law 18 [some (.float a0), some (.ref a1), some (.ref a2), some (.int a3)] [] h (ra_oI r)) : ra_kok 95 mL_law ra_oI (kL_law_1517 N c18) := (ra_k1_ok (by
  intro L S h a e
  split at e
  · exact ra_Ru.weak (nL_law_1935_ok N c18 hc18 _ _ _ _ _ _ e) ⟨rfl, ⟨rfl, ⟨rfl, ⟨rfl, trivial⟩⟩⟩⟩
  · cases e) ra_k0_ok)
set_option maxRecDepth 100000 in
theorem nL_law_1517_ok (N : Nat) (c18 : UInt32 → Nat → Nat → Int32 → ra_H → Option (Int32 × ra_H)) (hc18 : ∀ a0 a1 a2 a3 h r, c18 a0 a1 a2 a3 h = some r → ra_Ru 95 mL_law 18 [some (.float a0), some (.ref a1), some (.ref a2), some (.int a3)] [] h (ra_oI r)) (a0 : UInt32) (a1 : Nat) (a2 : Nat) (a3 : Int32) (h : ra_H) (r : (Int32 × ra_H)) (e : nL_law_1517 N c18 a0 a1 a2 a3 h = some r) : ra_Ru 95 mL_law 1517 [some (.float a0), some (.ref a1), some (.ref a2), some (.int a3)] [] h (ra_oI r) :=
  ra_sound (by omega) rfl ra_rI_ok (kL_law_1517_ok N c18 hc18) (fun m av h h1 e => (tVL_law_ok N) m av h h1 e) (fun m av h x h1 e => (tIL_law_ok N) m av h (x, h1) e) (fun m av h x h1 e => (ra_c0_ok (ro := ra_oJ)) m av h (x, h1) e) (fun m av h x h1 e => (ra_c0_ok (ro := ra_oR)) m av h (x, h1) e) (fun m av h x h1 e => (ra_c0_ok (ro := ra_oN)) m av h (x, h1) e) (fun m av h x h1 e => (ra_c0_ok (ro := ra_oF)) m av h (x, h1) e) 28 lL_law_1517 _ _ _ _ lL_law_1517_ck (show ra_run ra_rI (kL_law_1517 N c18) (tVL_law N) (tIL_law N) ra_c0 ra_c0 ra_c0 ra_c0 28 lL_law_1517 [some (.float a0), some (.ref a1), some (.ref a2), some (.int a3)] [] h = some r from e) _ _ rfl
def lL_law_1550 : List ra_I := [(1550, .aload_n 1, 1, 1, 0, 0, 0, 0, []),
  (1551, .aload_n 0, 1, 0, 0, 0, 0, 0, []),
  (1552, .iload_n 3, 1, 3, 0, 0, 0, 0, []),
  (1553, .iconst (1), 1, 0, 0, 0, (1), 0, []),
  (1554, .iadd, 1, 0, 0, 0, 0, 0, []),
  (1555, .iaload, 1, 0, 0, 0, 0, 0, []),
  (1556, .invokevirtual 163, 3, 174, 2, 1, 0, 0, []),
  (1559, .aload_n 2, 1, 2, 0, 0, 0, 0, []),
  (1560, .aload_n 0, 1, 0, 0, 0, 0, 0, []),
  (1561, .iload_n 3, 1, 3, 0, 0, 0, 0, []),
  (1562, .iconst (1), 1, 0, 0, 0, (1), 0, []),
  (1563, .iadd, 1, 0, 0, 0, 0, 0, []),
  (1564, .iaload, 1, 0, 0, 0, 0, 0, []),
  (1565, .invokevirtual 166, 3, 304, 2, 1, 0, 0, []),
  (1568, .if_icmp .eq (367), 3, 1935, 0, 0, 0, 0, []),
  (1571, .iconst (0), 1, 0, 0, 0, (0), 0, []),
  (1572, .ireturn, 1, 0, 0, 0, 0, 0, [])]
set_option maxRecDepth 100000 in
theorem lL_law_1550_ck : lL_law_1550.all (ra_ck mL_law 13) = true := by decide +kernel
def nL_law_1550 (N : Nat) (c18 : UInt32 → Nat → Nat → Int32 → ra_H → Option (Int32 × ra_H)) (a0 : UInt32) (a1 : Nat) (a2 : Nat) (a3 : Int32) (h : ra_H) : Option (Int32 × ra_H) :=
  (ra_xI h a0 (a3 + ((1 : Int32)))).bind fun x1 =>
  (fX11_stack N a1 x1 h).bind fun q2 =>
  (ra_xI q2.2 a0 (a3 + ((1 : Int32)))).bind fun x3 =>
  (fX12_stack N a2 x3 q2.2).bind fun q4 =>
  if q2.1 = q4.1 then
    nL_law_1935 N c18 a0 a1 a2 a3 q4.2
  else
    some ((0 : Int32), q4.2)
def kL_law_1550 (N : Nat) (c18 : UInt32 → Nat → Nat → Int32 → ra_H → Option (Int32 × ra_H)) : Nat → List (Option Value) → List Value → ra_H → Option (Int32 × ra_H) := (ra_k1 1935 (fun L S h => match L, S with
  | [some (.float a0), some (.ref a1), some (.ref a2), some (.int a3)], [] => nL_law_1935 N c18 a0 a1 a2 a3 h
  | _, _ => none) ra_k0)
theorem kL_law_1550_ok (N : Nat) (c18 : UInt32 → Nat → Nat → Int32 → ra_H → Option (Int32 × ra_H)) (hc18 : ∀ a0 a1 a2 a3 h r, c18 a0 a1 a2 a3 h = some r → ra_Ru 95 mL_law 18 [some (.float a0), some (.ref a1), some (.ref a2), some (.int a3)] [] h (ra_oI r)) : ra_kok 95 mL_law ra_oI (kL_law_1550 N c18) := (ra_k1_ok (by
  intro L S h a e
  split at e
  · exact ra_Ru.weak (nL_law_1935_ok N c18 hc18 _ _ _ _ _ _ e) ⟨rfl, ⟨rfl, ⟨rfl, ⟨rfl, trivial⟩⟩⟩⟩
  · cases e) ra_k0_ok)
set_option maxRecDepth 100000 in
theorem nL_law_1550_ok (N : Nat) (c18 : UInt32 → Nat → Nat → Int32 → ra_H → Option (Int32 × ra_H)) (hc18 : ∀ a0 a1 a2 a3 h r, c18 a0 a1 a2 a3 h = some r → ra_Ru 95 mL_law 18 [some (.float a0), some (.ref a1), some (.ref a2), some (.int a3)] [] h (ra_oI r)) (a0 : UInt32) (a1 : Nat) (a2 : Nat) (a3 : Int32) (h : ra_H) (r : (Int32 × ra_H)) (e : nL_law_1550 N c18 a0 a1 a2 a3 h = some r) : ra_Ru 95 mL_law 1550 [some (.float a0), some (.ref a1), some (.ref a2), some (.int a3)] [] h (ra_oI r) :=
  ra_sound (by omega) rfl ra_rI_ok (kL_law_1550_ok N c18 hc18) (fun m av h h1 e => (tVL_law_ok N) m av h h1 e) (fun m av h x h1 e => (tIL_law_ok N) m av h (x, h1) e) (fun m av h x h1 e => (ra_c0_ok (ro := ra_oJ)) m av h (x, h1) e) (fun m av h x h1 e => (ra_c0_ok (ro := ra_oR)) m av h (x, h1) e) (fun m av h x h1 e => (ra_c0_ok (ro := ra_oN)) m av h (x, h1) e) (fun m av h x h1 e => (ra_c0_ok (ro := ra_oF)) m av h (x, h1) e) 18 lL_law_1550 _ _ _ _ lL_law_1550_ck (show ra_run ra_rI (kL_law_1550 N c18) (tVL_law N) (tIL_law N) ra_c0 ra_c0 ra_c0 ra_c0 18 lL_law_1550 [some (.float a0), some (.ref a1), some (.ref a2), some (.int a3)] [] h = some r from e) _ _ rfl
def lL_law_1573 : List ra_I := [(1573, .aload_n 1, 1, 1, 0, 0, 0, 0, []),
  (1574, .invokevirtual 167, 3, 176, 1, 1, 0, 0, []),
  (1577, .aload_n 2, 1, 2, 0, 0, 0, 0, []),
  (1578, .invokevirtual 170, 3, 305, 1, 1, 0, 0, []),
  (1581, .if_icmp .eq (354), 3, 1935, 0, 0, 0, 0, []),
  (1584, .iconst (0), 1, 0, 0, 0, (0), 0, []),
  (1585, .ireturn, 1, 0, 0, 0, 0, 0, [])]
set_option maxRecDepth 100000 in
theorem lL_law_1573_ck : lL_law_1573.all (ra_ck mL_law 13) = true := by decide +kernel
def nL_law_1573 (N : Nat) (c18 : UInt32 → Nat → Nat → Int32 → ra_H → Option (Int32 × ra_H)) (a0 : UInt32) (a1 : Nat) (a2 : Nat) (a3 : Int32) (h : ra_H) : Option (Int32 × ra_H) :=
  (fX11_clear N a1 h).bind fun q1 =>
  (fX12_clear N a2 q1.2).bind fun q2 =>
  if q1.1 = q2.1 then
    nL_law_1935 N c18 a0 a1 a2 a3 q2.2
  else
    some ((0 : Int32), q2.2)
def kL_law_1573 (N : Nat) (c18 : UInt32 → Nat → Nat → Int32 → ra_H → Option (Int32 × ra_H)) : Nat → List (Option Value) → List Value → ra_H → Option (Int32 × ra_H) := (ra_k1 1935 (fun L S h => match L, S with
  | [some (.float a0), some (.ref a1), some (.ref a2), some (.int a3)], [] => nL_law_1935 N c18 a0 a1 a2 a3 h
  | _, _ => none) ra_k0)
theorem kL_law_1573_ok (N : Nat) (c18 : UInt32 → Nat → Nat → Int32 → ra_H → Option (Int32 × ra_H)) (hc18 : ∀ a0 a1 a2 a3 h r, c18 a0 a1 a2 a3 h = some r → ra_Ru 95 mL_law 18 [some (.float a0), some (.ref a1), some (.ref a2), some (.int a3)] [] h (ra_oI r)) : ra_kok 95 mL_law ra_oI (kL_law_1573 N c18) := (ra_k1_ok (by
  intro L S h a e
  split at e
  · exact ra_Ru.weak (nL_law_1935_ok N c18 hc18 _ _ _ _ _ _ e) ⟨rfl, ⟨rfl, ⟨rfl, ⟨rfl, trivial⟩⟩⟩⟩
  · cases e) ra_k0_ok)
set_option maxRecDepth 100000 in
theorem nL_law_1573_ok (N : Nat) (c18 : UInt32 → Nat → Nat → Int32 → ra_H → Option (Int32 × ra_H)) (hc18 : ∀ a0 a1 a2 a3 h r, c18 a0 a1 a2 a3 h = some r → ra_Ru 95 mL_law 18 [some (.float a0), some (.ref a1), some (.ref a2), some (.int a3)] [] h (ra_oI r)) (a0 : UInt32) (a1 : Nat) (a2 : Nat) (a3 : Int32) (h : ra_H) (r : (Int32 × ra_H)) (e : nL_law_1573 N c18 a0 a1 a2 a3 h = some r) : ra_Ru 95 mL_law 1573 [some (.float a0), some (.ref a1), some (.ref a2), some (.int a3)] [] h (ra_oI r) :=
  ra_sound (by omega) rfl ra_rI_ok (kL_law_1573_ok N c18 hc18) (fun m av h h1 e => (tVL_law_ok N) m av h h1 e) (fun m av h x h1 e => (tIL_law_ok N) m av h (x, h1) e) (fun m av h x h1 e => (ra_c0_ok (ro := ra_oJ)) m av h (x, h1) e) (fun m av h x h1 e => (ra_c0_ok (ro := ra_oR)) m av h (x, h1) e) (fun m av h x h1 e => (ra_c0_ok (ro := ra_oN)) m av h (x, h1) e) (fun m av h x h1 e => (ra_c0_ok (ro := ra_oF)) m av h (x, h1) e) 8 lL_law_1573 _ _ _ _ lL_law_1573_ck (show ra_run ra_rI (kL_law_1573 N c18) (tVL_law N) (tIL_law N) ra_c0 ra_c0 ra_c0 ra_c0 8 lL_law_1573 [some (.float a0), some (.ref a1), some (.ref a2), some (.int a3)] [] h = some r from e) _ _ rfl
def lL_law_1586 : List ra_I := [(1586, .aload_n 1, 1, 1, 0, 0, 0, 0, []),
  (1587, .aload_n 0, 1, 0, 0, 0, 0, 0, []),
  (1588, .iload_n 3, 1, 3, 0, 0, 0, 0, []),
  (1589, .iconst (1), 1, 0, 0, 0, (1), 0, []),
  (1590, .iadd, 1, 0, 0, 0, 0, 0, []),
  (1591, .iaload, 1, 0, 0, 0, 0, 0, []),
  (1592, .invokevirtual 171, 3, 177, 2, 1, 0, 0, []),
  (1595, .aload_n 2, 1, 2, 0, 0, 0, 0, []),
  (1596, .aload_n 0, 1, 0, 0, 0, 0, 0, []),
  (1597, .iload_n 3, 1, 3, 0, 0, 0, 0, []),
  (1598, .iconst (1), 1, 0, 0, 0, (1), 0, []),
  (1599, .iadd, 1, 0, 0, 0, 0, 0, []),
  (1600, .iaload, 1, 0, 0, 0, 0, 0, []),
  (1601, .invokevirtual 174, 3, 306, 2, 1, 0, 0, []),
  (1604, .if_icmp .eq (331), 3, 1935, 0, 0, 0, 0, []),
  (1607, .iconst (0), 1, 0, 0, 0, (0), 0, []),
  (1608, .ireturn, 1, 0, 0, 0, 0, 0, [])]
set_option maxRecDepth 100000 in
theorem lL_law_1586_ck : lL_law_1586.all (ra_ck mL_law 13) = true := by decide +kernel
def nL_law_1586 (N : Nat) (c18 : UInt32 → Nat → Nat → Int32 → ra_H → Option (Int32 × ra_H)) (a0 : UInt32) (a1 : Nat) (a2 : Nat) (a3 : Int32) (h : ra_H) : Option (Int32 × ra_H) :=
  (ra_xI h a0 (a3 + ((1 : Int32)))).bind fun x1 =>
  (fX11_beside N a1 x1 h).bind fun q2 =>
  (ra_xI q2.2 a0 (a3 + ((1 : Int32)))).bind fun x3 =>
  (fX12_beside N a2 x3 q2.2).bind fun q4 =>
  if q2.1 = q4.1 then
    nL_law_1935 N c18 a0 a1 a2 a3 q4.2
  else
    some ((0 : Int32), q4.2)
def kL_law_1586 (N : Nat) (c18 : UInt32 → Nat → Nat → Int32 → ra_H → Option (Int32 × ra_H)) : Nat → List (Option Value) → List Value → ra_H → Option (Int32 × ra_H) := (ra_k1 1935 (fun L S h => match L, S with
  | [some (.float a0), some (.ref a1), some (.ref a2), some (.int a3)], [] => nL_law_1935 N c18 a0 a1 a2 a3 h
  | _, _ => none) ra_k0)
theorem kL_law_1586_ok (N : Nat) (c18 : UInt32 → Nat → Nat → Int32 → ra_H → Option (Int32 × ra_H)) (hc18 : ∀ a0 a1 a2 a3 h r, c18 a0 a1 a2 a3 h = some r → ra_Ru 95 mL_law 18 [some (.float a0), some (.ref a1), some (.ref a2), some (.int a3)] [] h (ra_oI r)) : ra_kok 95 mL_law ra_oI (kL_law_1586 N c18) := (ra_k1_ok (by
  intro L S h a e
  split at e
  · exact ra_Ru.weak (nL_law_1935_ok N c18 hc18 _ _ _ _ _ _ e) ⟨rfl, ⟨rfl, ⟨rfl, ⟨rfl, trivial⟩⟩⟩⟩
  · cases e) ra_k0_ok)
set_option maxRecDepth 100000 in
theorem nL_law_1586_ok (N : Nat) (c18 : UInt32 → Nat → Nat → Int32 → ra_H → Option (Int32 × ra_H)) (hc18 : ∀ a0 a1 a2 a3 h r, c18 a0 a1 a2 a3 h = some r → ra_Ru 95 mL_law 18 [some (.float a0), some (.ref a1), some (.ref a2), some (.int a3)] [] h (ra_oI r)) (a0 : UInt32) (a1 : Nat) (a2 : Nat) (a3 : Int32) (h : ra_H) (r : (Int32 × ra_H)) (e : nL_law_1586 N c18 a0 a1 a2 a3 h = some r) : ra_Ru 95 mL_law 1586 [some (.float a0), some (.ref a1), some (.ref a2), some (.int a3)] [] h (ra_oI r) :=
  ra_sound (by omega) rfl ra_rI_ok (kL_law_1586_ok N c18 hc18) (fun m av h h1 e => (tVL_law_ok N) m av h h1 e) (fun m av h x h1 e => (tIL_law_ok N) m av h (x, h1) e) (fun m av h x h1 e => (ra_c0_ok (ro := ra_oJ)) m av h (x, h1) e) (fun m av h x h1 e => (ra_c0_ok (ro := ra_oR)) m av h (x, h1) e) (fun m av h x h1 e => (ra_c0_ok (ro := ra_oN)) m av h (x, h1) e) (fun m av h x h1 e => (ra_c0_ok (ro := ra_oF)) m av h (x, h1) e) 18 lL_law_1586 _ _ _ _ lL_law_1586_ck (show ra_run ra_rI (kL_law_1586 N c18) (tVL_law N) (tIL_law N) ra_c0 ra_c0 ra_c0 ra_c0 18 lL_law_1586 [some (.float a0), some (.ref a1), some (.ref a2), some (.int a3)] [] h = some r from e) _ _ rfl
def lL_law_1609 : List ra_I := [(1609, .aload_n 1, 1, 1, 0, 0, 0, 0, []),
  (1610, .aload_n 0, 1, 0, 0, 0, 0, 0, []),
  (1611, .iload_n 3, 1, 3, 0, 0, 0, 0, []),
  (1612, .iconst (1), 1, 0, 0, 0, (1), 0, []),
  (1613, .iadd, 1, 0, 0, 0, 0, 0, []),
  (1614, .iaload, 1, 0, 0, 0, 0, 0, []),
  (1615, .aload_n 0, 1, 0, 0, 0, 0, 0, []),
  (1616, .iload_n 3, 1, 3, 0, 0, 0, 0, []),
  (1617, .iconst (2), 1, 0, 0, 0, (2), 0, []),
  (1618, .iadd, 1, 0, 0, 0, 0, 0, []),
  (1619, .iaload, 1, 0, 0, 0, 0, 0, []),
  (1620, .aload_n 0, 1, 0, 0, 0, 0, 0, []),
  (1621, .iload_n 3, 1, 3, 0, 0, 0, 0, []),
  (1622, .iconst (3), 1, 0, 0, 0, (3), 0, []),
  (1623, .iadd, 1, 0, 0, 0, 0, 0, []),
  (1624, .iaload, 1, 0, 0, 0, 0, 0, []),
  (1625, .aload_n 0, 1, 0, 0, 0, 0, 0, []),
  (1626, .iload_n 3, 1, 3, 0, 0, 0, 0, []),
  (1627, .iconst (4), 1, 0, 0, 0, (4), 0, []),
  (1628, .iadd, 1, 0, 0, 0, 0, 0, []),
  (1629, .iaload, 1, 0, 0, 0, 0, 0, []),
  (1630, .invokevirtual 175, 3, 184, 5, 1, 0, 0, []),
  (1633, .aload_n 2, 1, 2, 0, 0, 0, 0, []),
  (1634, .aload_n 0, 1, 0, 0, 0, 0, 0, []),
  (1635, .iload_n 3, 1, 3, 0, 0, 0, 0, []),
  (1636, .iconst (1), 1, 0, 0, 0, (1), 0, []),
  (1637, .iadd, 1, 0, 0, 0, 0, 0, []),
  (1638, .iaload, 1, 0, 0, 0, 0, 0, []),
  (1639, .aload_n 0, 1, 0, 0, 0, 0, 0, []),
  (1640, .iload_n 3, 1, 3, 0, 0, 0, 0, []),
  (1641, .iconst (2), 1, 0, 0, 0, (2), 0, []),
  (1642, .iadd, 1, 0, 0, 0, 0, 0, []),
  (1643, .iaload, 1, 0, 0, 0, 0, 0, []),
  (1644, .aload_n 0, 1, 0, 0, 0, 0, 0, []),
  (1645, .iload_n 3, 1, 3, 0, 0, 0, 0, []),
  (1646, .iconst (3), 1, 0, 0, 0, (3), 0, []),
  (1647, .iadd, 1, 0, 0, 0, 0, 0, []),
  (1648, .iaload, 1, 0, 0, 0, 0, 0, []),
  (1649, .aload_n 0, 1, 0, 0, 0, 0, 0, []),
  (1650, .iload_n 3, 1, 3, 0, 0, 0, 0, []),
  (1651, .iconst (4), 1, 0, 0, 0, (4), 0, []),
  (1652, .iadd, 1, 0, 0, 0, 0, 0, []),
  (1653, .iaload, 1, 0, 0, 0, 0, 0, []),
  (1654, .invokevirtual 178, 3, 309, 5, 1, 0, 0, []),
  (1657, .if_icmp .eq (278), 3, 1935, 0, 0, 0, 0, []),
  (1660, .iconst (0), 1, 0, 0, 0, (0), 0, []),
  (1661, .ireturn, 1, 0, 0, 0, 0, 0, [])]
set_option maxRecDepth 100000 in
theorem lL_law_1609_ck : lL_law_1609.all (ra_ck mL_law 13) = true := by decide +kernel
def nL_law_1609 (N : Nat) (c18 : UInt32 → Nat → Nat → Int32 → ra_H → Option (Int32 × ra_H)) (a0 : UInt32) (a1 : Nat) (a2 : Nat) (a3 : Int32) (h : ra_H) : Option (Int32 × ra_H) :=
  (ra_xI h a0 (a3 + ((1 : Int32)))).bind fun x1 =>
  (ra_xI h a0 (a3 + ((2 : Int32)))).bind fun x2 =>
  (ra_xI h a0 (a3 + ((3 : Int32)))).bind fun x3 =>
  (ra_xI h a0 (a3 + ((4 : Int32)))).bind fun x4 =>
  (fX11_house N a1 x1 x2 x3 x4 h).bind fun q5 =>
  (ra_xI q5.2 a0 (a3 + ((1 : Int32)))).bind fun x6 =>
  (ra_xI q5.2 a0 (a3 + ((2 : Int32)))).bind fun x7 =>
  (ra_xI q5.2 a0 (a3 + ((3 : Int32)))).bind fun x8 =>
  (ra_xI q5.2 a0 (a3 + ((4 : Int32)))).bind fun x9 =>
  (fX12_house N a2 x6 x7 x8 x9 q5.2).bind fun q10 =>
  if q5.1 = q10.1 then
    nL_law_1935 N c18 a0 a1 a2 a3 q10.2
  else
    some ((0 : Int32), q10.2)
def kL_law_1609 (N : Nat) (c18 : UInt32 → Nat → Nat → Int32 → ra_H → Option (Int32 × ra_H)) : Nat → List (Option Value) → List Value → ra_H → Option (Int32 × ra_H) := (ra_k1 1935 (fun L S h => match L, S with
  | [some (.float a0), some (.ref a1), some (.ref a2), some (.int a3)], [] => nL_law_1935 N c18 a0 a1 a2 a3 h
  | _, _ => none) ra_k0)
theorem kL_law_1609_ok (N : Nat) (c18 : UInt32 → Nat → Nat → Int32 → ra_H → Option (Int32 × ra_H)) (hc18 : ∀ a0 a1 a2 a3 h r, c18 a0 a1 a2 a3 h = some r → ra_Ru 95 mL_law 18 [some (.float a0), some (.ref a1), some (.ref a2), some (.int a3)] [] h (ra_oI r)) : ra_kok 95 mL_law ra_oI (kL_law_1609 N c18) := (ra_k1_ok (by
  intro L S h a e
  split at e
  · exact ra_Ru.weak (nL_law_1935_ok N c18 hc18 _ _ _ _ _ _ e) ⟨rfl, ⟨rfl, ⟨rfl, ⟨rfl, trivial⟩⟩⟩⟩
  · cases e) ra_k0_ok)
set_option maxRecDepth 100000 in
theorem nL_law_1609_ok (N : Nat) (c18 : UInt32 → Nat → Nat → Int32 → ra_H → Option (Int32 × ra_H)) (hc18 : ∀ a0 a1 a2 a3 h r, c18 a0 a1 a2 a3 h = some r → ra_Ru 95 mL_law 18 [some (.float a0), some (.ref a1), some (.ref a2), some (.int a3)] [] h (ra_oI r)) (a0 : UInt32) (a1 : Nat) (a2 : Nat) (a3 : Int32) (h : ra_H) (r : (Int32 × ra_H)) (e : nL_law_1609 N c18 a0 a1 a2 a3 h = some r) : ra_Ru 95 mL_law 1609 [some (.float a0), some (.ref a1), some (.ref a2), some (.int a3)] [] h (ra_oI r) :=
  ra_sound (by omega) rfl ra_rI_ok (kL_law_1609_ok N c18 hc18) (fun m av h h1 e => (tVL_law_ok N) m av h h1 e) (fun m av h x h1 e => (tIL_law_ok N) m av h (x, h1) e) (fun m av h x h1 e => (ra_c0_ok (ro := ra_oJ)) m av h (x, h1) e) (fun m av h x h1 e => (ra_c0_ok (ro := ra_oR)) m av h (x, h1) e) (fun m av h x h1 e => (ra_c0_ok (ro := ra_oN)) m av h (x, h1) e) (fun m av h x h1 e => (ra_c0_ok (ro := ra_oF)) m av h (x, h1) e) 48 lL_law_1609 _ _ _ _ lL_law_1609_ck (show ra_run ra_rI (kL_law_1609 N c18) (tVL_law N) (tIL_law N) ra_c0 ra_c0 ra_c0 ra_c0 48 lL_law_1609 [some (.float a0), some (.ref a1), some (.ref a2), some (.int a3)] [] h = some r from e) _ _ rfl
def lL_law_1662 : List ra_I := [(1662, .aload_n 1, 1, 1, 0, 0, 0, 0, []),
  (1663, .aload_n 0, 1, 0, 0, 0, 0, 0, []),
  (1664, .iload_n 3, 1, 3, 0, 0, 0, 0, []),
  (1665, .iconst (1), 1, 0, 0, 0, (1), 0, []),
  (1666, .iadd, 1, 0, 0, 0, 0, 0, []),
  (1667, .iaload, 1, 0, 0, 0, 0, 0, []),
  (1668, .invokevirtual 179, 3, 185, 2, 1, 0, 0, []),
  (1671, .aload_n 2, 1, 2, 0, 0, 0, 0, []),
  (1672, .aload_n 0, 1, 0, 0, 0, 0, 0, []),
  (1673, .iload_n 3, 1, 3, 0, 0, 0, 0, []),
  (1674, .iconst (1), 1, 0, 0, 0, (1), 0, []),
  (1675, .iadd, 1, 0, 0, 0, 0, 0, []),
  (1676, .iaload, 1, 0, 0, 0, 0, 0, []),
  (1677, .invokevirtual 182, 3, 310, 2, 1, 0, 0, []),
  (1680, .if_icmp .eq (255), 3, 1935, 0, 0, 0, 0, []),
  (1683, .iconst (0), 1, 0, 0, 0, (0), 0, []),
  (1684, .ireturn, 1, 0, 0, 0, 0, 0, [])]
set_option maxRecDepth 100000 in
theorem lL_law_1662_ck : lL_law_1662.all (ra_ck mL_law 13) = true := by decide +kernel
def nL_law_1662 (N : Nat) (c18 : UInt32 → Nat → Nat → Int32 → ra_H → Option (Int32 × ra_H)) (a0 : UInt32) (a1 : Nat) (a2 : Nat) (a3 : Int32) (h : ra_H) : Option (Int32 × ra_H) :=
  (ra_xI h a0 (a3 + ((1 : Int32)))).bind fun x1 =>
  (fX11_expect N a1 x1 h).bind fun q2 =>
  (ra_xI q2.2 a0 (a3 + ((1 : Int32)))).bind fun x3 =>
  (fX12_expect N a2 x3 q2.2).bind fun q4 =>
  if q2.1 = q4.1 then
    nL_law_1935 N c18 a0 a1 a2 a3 q4.2
  else
    some ((0 : Int32), q4.2)
def kL_law_1662 (N : Nat) (c18 : UInt32 → Nat → Nat → Int32 → ra_H → Option (Int32 × ra_H)) : Nat → List (Option Value) → List Value → ra_H → Option (Int32 × ra_H) := (ra_k1 1935 (fun L S h => match L, S with
  | [some (.float a0), some (.ref a1), some (.ref a2), some (.int a3)], [] => nL_law_1935 N c18 a0 a1 a2 a3 h
  | _, _ => none) ra_k0)
theorem kL_law_1662_ok (N : Nat) (c18 : UInt32 → Nat → Nat → Int32 → ra_H → Option (Int32 × ra_H)) (hc18 : ∀ a0 a1 a2 a3 h r, c18 a0 a1 a2 a3 h = some r → ra_Ru 95 mL_law 18 [some (.float a0), some (.ref a1), some (.ref a2), some (.int a3)] [] h (ra_oI r)) : ra_kok 95 mL_law ra_oI (kL_law_1662 N c18) := (ra_k1_ok (by
  intro L S h a e
  split at e
  · exact ra_Ru.weak (nL_law_1935_ok N c18 hc18 _ _ _ _ _ _ e) ⟨rfl, ⟨rfl, ⟨rfl, ⟨rfl, trivial⟩⟩⟩⟩
  · cases e) ra_k0_ok)
set_option maxRecDepth 100000 in
theorem nL_law_1662_ok (N : Nat) (c18 : UInt32 → Nat → Nat → Int32 → ra_H → Option (Int32 × ra_H)) (hc18 : ∀ a0 a1 a2 a3 h r, c18 a0 a1 a2 a3 h = some r → ra_Ru 95 mL_law 18 [some (.float a0), some (.ref a1), some (.ref a2), some (.int a3)] [] h (ra_oI r)) (a0 : UInt32) (a1 : Nat) (a2 : Nat) (a3 : Int32) (h : ra_H) (r : (Int32 × ra_H)) (e : nL_law_1662 N c18 a0 a1 a2 a3 h = some r) : ra_Ru 95 mL_law 1662 [some (.float a0), some (.ref a1), some (.ref a2), some (.int a3)] [] h (ra_oI r) :=
  ra_sound (by omega) rfl ra_rI_ok (kL_law_1662_ok N c18 hc18) (fun m av h h1 e => (tVL_law_ok N) m av h h1 e) (fun m av h x h1 e => (tIL_law_ok N) m av h (x, h1) e) (fun m av h x h1 e => (ra_c0_ok (ro := ra_oJ)) m av h (x, h1) e) (fun m av h x h1 e => (ra_c0_ok (ro := ra_oR)) m av h (x, h1) e) (fun m av h x h1 e => (ra_c0_ok (ro := ra_oN)) m av h (x, h1) e) (fun m av h x h1 e => (ra_c0_ok (ro := ra_oF)) m av h (x, h1) e) 18 lL_law_1662 _ _ _ _ lL_law_1662_ck (show ra_run ra_rI (kL_law_1662 N c18) (tVL_law N) (tIL_law N) ra_c0 ra_c0 ra_c0 ra_c0 18 lL_law_1662 [some (.float a0), some (.ref a1), some (.ref a2), some (.int a3)] [] h = some r from e) _ _ rfl
def lL_law_1685 : List ra_I := [(1685, .aload_n 1, 1, 1, 0, 0, 0, 0, []),
  (1686, .invokevirtual 183, 3, 187, 1, 1, 0, 0, []),
  (1689, .aload_n 2, 1, 2, 0, 0, 0, 0, []),
  (1690, .invokevirtual 186, 3, 312, 1, 1, 0, 0, []),
  (1693, .if_icmp .eq (242), 3, 1935, 0, 0, 0, 0, []),
  (1696, .iconst (0), 1, 0, 0, 0, (0), 0, []),
  (1697, .ireturn, 1, 0, 0, 0, 0, 0, [])]
set_option maxRecDepth 100000 in
theorem lL_law_1685_ck : lL_law_1685.all (ra_ck mL_law 13) = true := by decide +kernel
def nL_law_1685 (N : Nat) (c18 : UInt32 → Nat → Nat → Int32 → ra_H → Option (Int32 × ra_H)) (a0 : UInt32) (a1 : Nat) (a2 : Nat) (a3 : Int32) (h : ra_H) : Option (Int32 × ra_H) :=
  (fX11_next N a1 h).bind fun q1 =>
  (fX12_next N a2 q1.2).bind fun q2 =>
  if q1.1 = q2.1 then
    nL_law_1935 N c18 a0 a1 a2 a3 q2.2
  else
    some ((0 : Int32), q2.2)
def kL_law_1685 (N : Nat) (c18 : UInt32 → Nat → Nat → Int32 → ra_H → Option (Int32 × ra_H)) : Nat → List (Option Value) → List Value → ra_H → Option (Int32 × ra_H) := (ra_k1 1935 (fun L S h => match L, S with
  | [some (.float a0), some (.ref a1), some (.ref a2), some (.int a3)], [] => nL_law_1935 N c18 a0 a1 a2 a3 h
  | _, _ => none) ra_k0)
theorem kL_law_1685_ok (N : Nat) (c18 : UInt32 → Nat → Nat → Int32 → ra_H → Option (Int32 × ra_H)) (hc18 : ∀ a0 a1 a2 a3 h r, c18 a0 a1 a2 a3 h = some r → ra_Ru 95 mL_law 18 [some (.float a0), some (.ref a1), some (.ref a2), some (.int a3)] [] h (ra_oI r)) : ra_kok 95 mL_law ra_oI (kL_law_1685 N c18) := (ra_k1_ok (by
  intro L S h a e
  split at e
  · exact ra_Ru.weak (nL_law_1935_ok N c18 hc18 _ _ _ _ _ _ e) ⟨rfl, ⟨rfl, ⟨rfl, ⟨rfl, trivial⟩⟩⟩⟩
  · cases e) ra_k0_ok)
set_option maxRecDepth 100000 in
theorem nL_law_1685_ok (N : Nat) (c18 : UInt32 → Nat → Nat → Int32 → ra_H → Option (Int32 × ra_H)) (hc18 : ∀ a0 a1 a2 a3 h r, c18 a0 a1 a2 a3 h = some r → ra_Ru 95 mL_law 18 [some (.float a0), some (.ref a1), some (.ref a2), some (.int a3)] [] h (ra_oI r)) (a0 : UInt32) (a1 : Nat) (a2 : Nat) (a3 : Int32) (h : ra_H) (r : (Int32 × ra_H)) (e : nL_law_1685 N c18 a0 a1 a2 a3 h = some r) : ra_Ru 95 mL_law 1685 [some (.float a0), some (.ref a1), some (.ref a2), some (.int a3)] [] h (ra_oI r) :=
  ra_sound (by omega) rfl ra_rI_ok (kL_law_1685_ok N c18 hc18) (fun m av h h1 e => (tVL_law_ok N) m av h h1 e) (fun m av h x h1 e => (tIL_law_ok N) m av h (x, h1) e) (fun m av h x h1 e => (ra_c0_ok (ro := ra_oJ)) m av h (x, h1) e) (fun m av h x h1 e => (ra_c0_ok (ro := ra_oR)) m av h (x, h1) e) (fun m av h x h1 e => (ra_c0_ok (ro := ra_oN)) m av h (x, h1) e) (fun m av h x h1 e => (ra_c0_ok (ro := ra_oF)) m av h (x, h1) e) 8 lL_law_1685 _ _ _ _ lL_law_1685_ck (show ra_run ra_rI (kL_law_1685 N c18) (tVL_law N) (tIL_law N) ra_c0 ra_c0 ra_c0 ra_c0 8 lL_law_1685 [some (.float a0), some (.ref a1), some (.ref a2), some (.int a3)] [] h = some r from e) _ _ rfl
def lL_law_1698 : List ra_I := [(1698, .aload_n 1, 1, 1, 0, 0, 0, 0, []),
  (1699, .aload_n 0, 1, 0, 0, 0, 0, 0, []),
  (1700, .iload_n 3, 1, 3, 0, 0, 0, 0, []),
  (1701, .iconst (1), 1, 0, 0, 0, (1), 0, []),
  (1702, .iadd, 1, 0, 0, 0, 0, 0, []),
  (1703, .iaload, 1, 0, 0, 0, 0, 0, []),
  (1704, .invokevirtual 187, 3, 188, 2, 1, 0, 0, []),
  (1707, .aload_n 2, 1, 2, 0, 0, 0, 0, []),
  (1708, .aload_n 0, 1, 0, 0, 0, 0, 0, []),
  (1709, .iload_n 3, 1, 3, 0, 0, 0, 0, []),
  (1710, .iconst (1), 1, 0, 0, 0, (1), 0, []),
  (1711, .iadd, 1, 0, 0, 0, 0, 0, []),
  (1712, .iaload, 1, 0, 0, 0, 0, 0, []),
  (1713, .invokevirtual 190, 3, 313, 2, 1, 0, 0, []),
  (1716, .if_icmp .eq (219), 3, 1935, 0, 0, 0, 0, []),
  (1719, .iconst (0), 1, 0, 0, 0, (0), 0, []),
  (1720, .ireturn, 1, 0, 0, 0, 0, 0, [])]
set_option maxRecDepth 100000 in
theorem lL_law_1698_ck : lL_law_1698.all (ra_ck mL_law 13) = true := by decide +kernel
def nL_law_1698 (N : Nat) (c18 : UInt32 → Nat → Nat → Int32 → ra_H → Option (Int32 × ra_H)) (a0 : UInt32) (a1 : Nat) (a2 : Nat) (a3 : Int32) (h : ra_H) : Option (Int32 × ra_H) :=
  (ra_xI h a0 (a3 + ((1 : Int32)))).bind fun x1 =>
  (fX11_left N a1 x1 h).bind fun q2 =>
  (ra_xI q2.2 a0 (a3 + ((1 : Int32)))).bind fun x3 =>
  (fX12_left N a2 x3 q2.2).bind fun q4 =>
  if q2.1 = q4.1 then
    nL_law_1935 N c18 a0 a1 a2 a3 q4.2
  else
    some ((0 : Int32), q4.2)
def kL_law_1698 (N : Nat) (c18 : UInt32 → Nat → Nat → Int32 → ra_H → Option (Int32 × ra_H)) : Nat → List (Option Value) → List Value → ra_H → Option (Int32 × ra_H) := (ra_k1 1935 (fun L S h => match L, S with
  | [some (.float a0), some (.ref a1), some (.ref a2), some (.int a3)], [] => nL_law_1935 N c18 a0 a1 a2 a3 h
  | _, _ => none) ra_k0)
theorem kL_law_1698_ok (N : Nat) (c18 : UInt32 → Nat → Nat → Int32 → ra_H → Option (Int32 × ra_H)) (hc18 : ∀ a0 a1 a2 a3 h r, c18 a0 a1 a2 a3 h = some r → ra_Ru 95 mL_law 18 [some (.float a0), some (.ref a1), some (.ref a2), some (.int a3)] [] h (ra_oI r)) : ra_kok 95 mL_law ra_oI (kL_law_1698 N c18) := (ra_k1_ok (by
  intro L S h a e
  split at e
  · exact ra_Ru.weak (nL_law_1935_ok N c18 hc18 _ _ _ _ _ _ e) ⟨rfl, ⟨rfl, ⟨rfl, ⟨rfl, trivial⟩⟩⟩⟩
  · cases e) ra_k0_ok)
set_option maxRecDepth 100000 in
theorem nL_law_1698_ok (N : Nat) (c18 : UInt32 → Nat → Nat → Int32 → ra_H → Option (Int32 × ra_H)) (hc18 : ∀ a0 a1 a2 a3 h r, c18 a0 a1 a2 a3 h = some r → ra_Ru 95 mL_law 18 [some (.float a0), some (.ref a1), some (.ref a2), some (.int a3)] [] h (ra_oI r)) (a0 : UInt32) (a1 : Nat) (a2 : Nat) (a3 : Int32) (h : ra_H) (r : (Int32 × ra_H)) (e : nL_law_1698 N c18 a0 a1 a2 a3 h = some r) : ra_Ru 95 mL_law 1698 [some (.float a0), some (.ref a1), some (.ref a2), some (.int a3)] [] h (ra_oI r) :=
  ra_sound (by omega) rfl ra_rI_ok (kL_law_1698_ok N c18 hc18) (fun m av h h1 e => (tVL_law_ok N) m av h h1 e) (fun m av h x h1 e => (tIL_law_ok N) m av h (x, h1) e) (fun m av h x h1 e => (ra_c0_ok (ro := ra_oJ)) m av h (x, h1) e) (fun m av h x h1 e => (ra_c0_ok (ro := ra_oR)) m av h (x, h1) e) (fun m av h x h1 e => (ra_c0_ok (ro := ra_oN)) m av h (x, h1) e) (fun m av h x h1 e => (ra_c0_ok (ro := ra_oF)) m av h (x, h1) e) 18 lL_law_1698 _ _ _ _ lL_law_1698_ck (show ra_run ra_rI (kL_law_1698 N c18) (tVL_law N) (tIL_law N) ra_c0 ra_c0 ra_c0 ra_c0 18 lL_law_1698 [some (.float a0), some (.ref a1), some (.ref a2), some (.int a3)] [] h = some r from e) _ _ rfl
def lL_law_1721 : List ra_I := [(1721, .aload_n 1, 1, 1, 0, 0, 0, 0, []),
  (1722, .aload_n 0, 1, 0, 0, 0, 0, 0, []),
  (1723, .iload_n 3, 1, 3, 0, 0, 0, 0, []),
  (1724, .iconst (1), 1, 0, 0, 0, (1), 0, []),
  (1725, .iadd, 1, 0, 0, 0, 0, 0, []),
  (1726, .iaload, 1, 0, 0, 0, 0, 0, []),
  (1727, .aload_n 0, 1, 0, 0, 0, 0, 0, []),
  (1728, .iload_n 3, 1, 3, 0, 0, 0, 0, []),
  (1729, .iconst (2), 1, 0, 0, 0, (2), 0, []),
  (1730, .iadd, 1, 0, 0, 0, 0, 0, []),
  (1731, .iaload, 1, 0, 0, 0, 0, 0, []),
  (1732, .aload_n 0, 1, 0, 0, 0, 0, 0, []),
  (1733, .iload_n 3, 1, 3, 0, 0, 0, 0, []),
  (1734, .iconst (3), 1, 0, 0, 0, (3), 0, []),
  (1735, .iadd, 1, 0, 0, 0, 0, 0, []),
  (1736, .iaload, 1, 0, 0, 0, 0, 0, []),
  (1737, .invokevirtual 191, 3, 190, 4, 1, 0, 0, []),
  (1740, .aload_n 2, 1, 2, 0, 0, 0, 0, []),
  (1741, .aload_n 0, 1, 0, 0, 0, 0, 0, []),
  (1742, .iload_n 3, 1, 3, 0, 0, 0, 0, []),
  (1743, .iconst (1), 1, 0, 0, 0, (1), 0, []),
  (1744, .iadd, 1, 0, 0, 0, 0, 0, []),
  (1745, .iaload, 1, 0, 0, 0, 0, 0, []),
  (1746, .aload_n 0, 1, 0, 0, 0, 0, 0, []),
  (1747, .iload_n 3, 1, 3, 0, 0, 0, 0, []),
  (1748, .iconst (2), 1, 0, 0, 0, (2), 0, []),
  (1749, .iadd, 1, 0, 0, 0, 0, 0, []),
  (1750, .iaload, 1, 0, 0, 0, 0, 0, []),
  (1751, .aload_n 0, 1, 0, 0, 0, 0, 0, []),
  (1752, .iload_n 3, 1, 3, 0, 0, 0, 0, []),
  (1753, .iconst (3), 1, 0, 0, 0, (3), 0, []),
  (1754, .iadd, 1, 0, 0, 0, 0, 0, []),
  (1755, .iaload, 1, 0, 0, 0, 0, 0, []),
  (1756, .invokevirtual 194, 3, 315, 4, 1, 0, 0, []),
  (1759, .if_icmp .eq (176), 3, 1935, 0, 0, 0, 0, []),
  (1762, .iconst (0), 1, 0, 0, 0, (0), 0, []),
  (1763, .ireturn, 1, 0, 0, 0, 0, 0, [])]
set_option maxRecDepth 100000 in
theorem lL_law_1721_ck : lL_law_1721.all (ra_ck mL_law 13) = true := by decide +kernel
def nL_law_1721 (N : Nat) (c18 : UInt32 → Nat → Nat → Int32 → ra_H → Option (Int32 × ra_H)) (a0 : UInt32) (a1 : Nat) (a2 : Nat) (a3 : Int32) (h : ra_H) : Option (Int32 × ra_H) :=
  (ra_xI h a0 (a3 + ((1 : Int32)))).bind fun x1 =>
  (ra_xI h a0 (a3 + ((2 : Int32)))).bind fun x2 =>
  (ra_xI h a0 (a3 + ((3 : Int32)))).bind fun x3 =>
  (fX11_grew N a1 x1 x2 x3 h).bind fun q4 =>
  (ra_xI q4.2 a0 (a3 + ((1 : Int32)))).bind fun x5 =>
  (ra_xI q4.2 a0 (a3 + ((2 : Int32)))).bind fun x6 =>
  (ra_xI q4.2 a0 (a3 + ((3 : Int32)))).bind fun x7 =>
  (fX12_grew N a2 x5 x6 x7 q4.2).bind fun q8 =>
  if q4.1 = q8.1 then
    nL_law_1935 N c18 a0 a1 a2 a3 q8.2
  else
    some ((0 : Int32), q8.2)
def kL_law_1721 (N : Nat) (c18 : UInt32 → Nat → Nat → Int32 → ra_H → Option (Int32 × ra_H)) : Nat → List (Option Value) → List Value → ra_H → Option (Int32 × ra_H) := (ra_k1 1935 (fun L S h => match L, S with
  | [some (.float a0), some (.ref a1), some (.ref a2), some (.int a3)], [] => nL_law_1935 N c18 a0 a1 a2 a3 h
  | _, _ => none) ra_k0)
theorem kL_law_1721_ok (N : Nat) (c18 : UInt32 → Nat → Nat → Int32 → ra_H → Option (Int32 × ra_H)) (hc18 : ∀ a0 a1 a2 a3 h r, c18 a0 a1 a2 a3 h = some r → ra_Ru 95 mL_law 18 [some (.float a0), some (.ref a1), some (.ref a2), some (.int a3)] [] h (ra_oI r)) : ra_kok 95 mL_law ra_oI (kL_law_1721 N c18) := (ra_k1_ok (by
  intro L S h a e
  split at e
  · exact ra_Ru.weak (nL_law_1935_ok N c18 hc18 _ _ _ _ _ _ e) ⟨rfl, ⟨rfl, ⟨rfl, ⟨rfl, trivial⟩⟩⟩⟩
  · cases e) ra_k0_ok)
set_option maxRecDepth 100000 in
theorem nL_law_1721_ok (N : Nat) (c18 : UInt32 → Nat → Nat → Int32 → ra_H → Option (Int32 × ra_H)) (hc18 : ∀ a0 a1 a2 a3 h r, c18 a0 a1 a2 a3 h = some r → ra_Ru 95 mL_law 18 [some (.float a0), some (.ref a1), some (.ref a2), some (.int a3)] [] h (ra_oI r)) (a0 : UInt32) (a1 : Nat) (a2 : Nat) (a3 : Int32) (h : ra_H) (r : (Int32 × ra_H)) (e : nL_law_1721 N c18 a0 a1 a2 a3 h = some r) : ra_Ru 95 mL_law 1721 [some (.float a0), some (.ref a1), some (.ref a2), some (.int a3)] [] h (ra_oI r) :=
  ra_sound (by omega) rfl ra_rI_ok (kL_law_1721_ok N c18 hc18) (fun m av h h1 e => (tVL_law_ok N) m av h h1 e) (fun m av h x h1 e => (tIL_law_ok N) m av h (x, h1) e) (fun m av h x h1 e => (ra_c0_ok (ro := ra_oJ)) m av h (x, h1) e) (fun m av h x h1 e => (ra_c0_ok (ro := ra_oR)) m av h (x, h1) e) (fun m av h x h1 e => (ra_c0_ok (ro := ra_oN)) m av h (x, h1) e) (fun m av h x h1 e => (ra_c0_ok (ro := ra_oF)) m av h (x, h1) e) 38 lL_law_1721 _ _ _ _ lL_law_1721_ck (show ra_run ra_rI (kL_law_1721 N c18) (tVL_law N) (tIL_law N) ra_c0 ra_c0 ra_c0 ra_c0 38 lL_law_1721 [some (.float a0), some (.ref a1), some (.ref a2), some (.int a3)] [] h = some r from e) _ _ rfl
def lL_law_1764 : List ra_I := [(1764, .aload_n 1, 1, 1, 0, 0, 0, 0, []),
  (1765, .aload_n 0, 1, 0, 0, 0, 0, 0, []),
  (1766, .iload_n 3, 1, 3, 0, 0, 0, 0, []),
  (1767, .iconst (1), 1, 0, 0, 0, (1), 0, []),
  (1768, .iadd, 1, 0, 0, 0, 0, 0, []),
  (1769, .iaload, 1, 0, 0, 0, 0, 0, []),
  (1770, .aload_n 0, 1, 0, 0, 0, 0, 0, []),
  (1771, .iload_n 3, 1, 3, 0, 0, 0, 0, []),
  (1772, .iconst (2), 1, 0, 0, 0, (2), 0, []),
  (1773, .iadd, 1, 0, 0, 0, 0, 0, []),
  (1774, .iaload, 1, 0, 0, 0, 0, 0, []),
  (1775, .invokevirtual 195, 3, 191, 3, 1, 0, 0, []),
  (1778, .aload_n 2, 1, 2, 0, 0, 0, 0, []),
  (1779, .aload_n 0, 1, 0, 0, 0, 0, 0, []),
  (1780, .iload_n 3, 1, 3, 0, 0, 0, 0, []),
  (1781, .iconst (1), 1, 0, 0, 0, (1), 0, []),
  (1782, .iadd, 1, 0, 0, 0, 0, 0, []),
  (1783, .iaload, 1, 0, 0, 0, 0, 0, []),
  (1784, .aload_n 0, 1, 0, 0, 0, 0, 0, []),
  (1785, .iload_n 3, 1, 3, 0, 0, 0, 0, []),
  (1786, .iconst (2), 1, 0, 0, 0, (2), 0, []),
  (1787, .iadd, 1, 0, 0, 0, 0, 0, []),
  (1788, .iaload, 1, 0, 0, 0, 0, 0, []),
  (1789, .invokevirtual 198, 3, 316, 3, 1, 0, 0, []),
  (1792, .if_icmp .eq (143), 3, 1935, 0, 0, 0, 0, []),
  (1795, .iconst (0), 1, 0, 0, 0, (0), 0, []),
  (1796, .ireturn, 1, 0, 0, 0, 0, 0, [])]
set_option maxRecDepth 100000 in
theorem lL_law_1764_ck : lL_law_1764.all (ra_ck mL_law 13) = true := by decide +kernel
def nL_law_1764 (N : Nat) (c18 : UInt32 → Nat → Nat → Int32 → ra_H → Option (Int32 × ra_H)) (a0 : UInt32) (a1 : Nat) (a2 : Nat) (a3 : Int32) (h : ra_H) : Option (Int32 × ra_H) :=
  (ra_xI h a0 (a3 + ((1 : Int32)))).bind fun x1 =>
  (ra_xI h a0 (a3 + ((2 : Int32)))).bind fun x2 =>
  (fX11_scatter N a1 x1 x2 h).bind fun q3 =>
  (ra_xI q3.2 a0 (a3 + ((1 : Int32)))).bind fun x4 =>
  (ra_xI q3.2 a0 (a3 + ((2 : Int32)))).bind fun x5 =>
  (fX12_scatter N a2 x4 x5 q3.2).bind fun q6 =>
  if q3.1 = q6.1 then
    nL_law_1935 N c18 a0 a1 a2 a3 q6.2
  else
    some ((0 : Int32), q6.2)
def kL_law_1764 (N : Nat) (c18 : UInt32 → Nat → Nat → Int32 → ra_H → Option (Int32 × ra_H)) : Nat → List (Option Value) → List Value → ra_H → Option (Int32 × ra_H) := (ra_k1 1935 (fun L S h => match L, S with
  | [some (.float a0), some (.ref a1), some (.ref a2), some (.int a3)], [] => nL_law_1935 N c18 a0 a1 a2 a3 h
  | _, _ => none) ra_k0)
theorem kL_law_1764_ok (N : Nat) (c18 : UInt32 → Nat → Nat → Int32 → ra_H → Option (Int32 × ra_H)) (hc18 : ∀ a0 a1 a2 a3 h r, c18 a0 a1 a2 a3 h = some r → ra_Ru 95 mL_law 18 [some (.float a0), some (.ref a1), some (.ref a2), some (.int a3)] [] h (ra_oI r)) : ra_kok 95 mL_law ra_oI (kL_law_1764 N c18) := (ra_k1_ok (by
  intro L S h a e
  split at e
  · exact ra_Ru.weak (nL_law_1935_ok N c18 hc18 _ _ _ _ _ _ e) ⟨rfl, ⟨rfl, ⟨rfl, ⟨rfl, trivial⟩⟩⟩⟩
  · cases e) ra_k0_ok)
set_option maxRecDepth 100000 in
theorem nL_law_1764_ok (N : Nat) (c18 : UInt32 → Nat → Nat → Int32 → ra_H → Option (Int32 × ra_H)) (hc18 : ∀ a0 a1 a2 a3 h r, c18 a0 a1 a2 a3 h = some r → ra_Ru 95 mL_law 18 [some (.float a0), some (.ref a1), some (.ref a2), some (.int a3)] [] h (ra_oI r)) (a0 : UInt32) (a1 : Nat) (a2 : Nat) (a3 : Int32) (h : ra_H) (r : (Int32 × ra_H)) (e : nL_law_1764 N c18 a0 a1 a2 a3 h = some r) : ra_Ru 95 mL_law 1764 [some (.float a0), some (.ref a1), some (.ref a2), some (.int a3)] [] h (ra_oI r) :=
  ra_sound (by omega) rfl ra_rI_ok (kL_law_1764_ok N c18 hc18) (fun m av h h1 e => (tVL_law_ok N) m av h h1 e) (fun m av h x h1 e => (tIL_law_ok N) m av h (x, h1) e) (fun m av h x h1 e => (ra_c0_ok (ro := ra_oJ)) m av h (x, h1) e) (fun m av h x h1 e => (ra_c0_ok (ro := ra_oR)) m av h (x, h1) e) (fun m av h x h1 e => (ra_c0_ok (ro := ra_oN)) m av h (x, h1) e) (fun m av h x h1 e => (ra_c0_ok (ro := ra_oF)) m av h (x, h1) e) 28 lL_law_1764 _ _ _ _ lL_law_1764_ck (show ra_run ra_rI (kL_law_1764 N c18) (tVL_law N) (tIL_law N) ra_c0 ra_c0 ra_c0 ra_c0 28 lL_law_1764 [some (.float a0), some (.ref a1), some (.ref a2), some (.int a3)] [] h = some r from e) _ _ rfl
def lL_law_1797 : List ra_I := [(1797, .aload_n 1, 1, 1, 0, 0, 0, 0, []),
  (1798, .aload_n 0, 1, 0, 0, 0, 0, 0, []),
  (1799, .iload_n 3, 1, 3, 0, 0, 0, 0, []),
  (1800, .iconst (1), 1, 0, 0, 0, (1), 0, []),
  (1801, .iadd, 1, 0, 0, 0, 0, 0, []),
  (1802, .iaload, 1, 0, 0, 0, 0, 0, []),
  (1803, .invokevirtual 199, 3, 194, 2, 1, 0, 0, []),
  (1806, .aload_n 2, 1, 2, 0, 0, 0, 0, []),
  (1807, .aload_n 0, 1, 0, 0, 0, 0, 0, []),
  (1808, .iload_n 3, 1, 3, 0, 0, 0, 0, []),
  (1809, .iconst (1), 1, 0, 0, 0, (1), 0, []),
  (1810, .iadd, 1, 0, 0, 0, 0, 0, []),
  (1811, .iaload, 1, 0, 0, 0, 0, 0, []),
  (1812, .invokevirtual 202, 3, 318, 2, 1, 0, 0, []),
  (1815, .if_icmp .eq (120), 3, 1935, 0, 0, 0, 0, []),
  (1818, .iconst (0), 1, 0, 0, 0, (0), 0, []),
  (1819, .ireturn, 1, 0, 0, 0, 0, 0, [])]
set_option maxRecDepth 100000 in
theorem lL_law_1797_ck : lL_law_1797.all (ra_ck mL_law 13) = true := by decide +kernel
def nL_law_1797 (N : Nat) (c18 : UInt32 → Nat → Nat → Int32 → ra_H → Option (Int32 × ra_H)) (a0 : UInt32) (a1 : Nat) (a2 : Nat) (a3 : Int32) (h : ra_H) : Option (Int32 × ra_H) :=
  (ra_xI h a0 (a3 + ((1 : Int32)))).bind fun x1 =>
  (fX11_went N a1 x1 h).bind fun q2 =>
  (ra_xI q2.2 a0 (a3 + ((1 : Int32)))).bind fun x3 =>
  (fX12_went N a2 x3 q2.2).bind fun q4 =>
  if q2.1 = q4.1 then
    nL_law_1935 N c18 a0 a1 a2 a3 q4.2
  else
    some ((0 : Int32), q4.2)
def kL_law_1797 (N : Nat) (c18 : UInt32 → Nat → Nat → Int32 → ra_H → Option (Int32 × ra_H)) : Nat → List (Option Value) → List Value → ra_H → Option (Int32 × ra_H) := (ra_k1 1935 (fun L S h => match L, S with
  | [some (.float a0), some (.ref a1), some (.ref a2), some (.int a3)], [] => nL_law_1935 N c18 a0 a1 a2 a3 h
  | _, _ => none) ra_k0)
theorem kL_law_1797_ok (N : Nat) (c18 : UInt32 → Nat → Nat → Int32 → ra_H → Option (Int32 × ra_H)) (hc18 : ∀ a0 a1 a2 a3 h r, c18 a0 a1 a2 a3 h = some r → ra_Ru 95 mL_law 18 [some (.float a0), some (.ref a1), some (.ref a2), some (.int a3)] [] h (ra_oI r)) : ra_kok 95 mL_law ra_oI (kL_law_1797 N c18) := (ra_k1_ok (by
  intro L S h a e
  split at e
  · exact ra_Ru.weak (nL_law_1935_ok N c18 hc18 _ _ _ _ _ _ e) ⟨rfl, ⟨rfl, ⟨rfl, ⟨rfl, trivial⟩⟩⟩⟩
  · cases e) ra_k0_ok)
set_option maxRecDepth 100000 in
theorem nL_law_1797_ok (N : Nat) (c18 : UInt32 → Nat → Nat → Int32 → ra_H → Option (Int32 × ra_H)) (hc18 : ∀ a0 a1 a2 a3 h r, c18 a0 a1 a2 a3 h = some r → ra_Ru 95 mL_law 18 [some (.float a0), some (.ref a1), some (.ref a2), some (.int a3)] [] h (ra_oI r)) (a0 : UInt32) (a1 : Nat) (a2 : Nat) (a3 : Int32) (h : ra_H) (r : (Int32 × ra_H)) (e : nL_law_1797 N c18 a0 a1 a2 a3 h = some r) : ra_Ru 95 mL_law 1797 [some (.float a0), some (.ref a1), some (.ref a2), some (.int a3)] [] h (ra_oI r) :=
  ra_sound (by omega) rfl ra_rI_ok (kL_law_1797_ok N c18 hc18) (fun m av h h1 e => (tVL_law_ok N) m av h h1 e) (fun m av h x h1 e => (tIL_law_ok N) m av h (x, h1) e) (fun m av h x h1 e => (ra_c0_ok (ro := ra_oJ)) m av h (x, h1) e) (fun m av h x h1 e => (ra_c0_ok (ro := ra_oR)) m av h (x, h1) e) (fun m av h x h1 e => (ra_c0_ok (ro := ra_oN)) m av h (x, h1) e) (fun m av h x h1 e => (ra_c0_ok (ro := ra_oF)) m av h (x, h1) e) 18 lL_law_1797 _ _ _ _ lL_law_1797_ck (show ra_run ra_rI (kL_law_1797 N c18) (tVL_law N) (tIL_law N) ra_c0 ra_c0 ra_c0 ra_c0 18 lL_law_1797 [some (.float a0), some (.ref a1), some (.ref a2), some (.int a3)] [] h = some r from e) _ _ rfl
def lL_law_1820 : List ra_I := [(1820, .aload_n 1, 1, 1, 0, 0, 0, 0, []),
  (1821, .aload_n 0, 1, 0, 0, 0, 0, 0, []),
  (1822, .iload_n 3, 1, 3, 0, 0, 0, 0, []),
  (1823, .iconst (1), 1, 0, 0, 0, (1), 0, []),
  (1824, .iadd, 1, 0, 0, 0, 0, 0, []),
  (1825, .iaload, 1, 0, 0, 0, 0, 0, []),
  (1826, .aload_n 0, 1, 0, 0, 0, 0, 0, []),
  (1827, .iload_n 3, 1, 3, 0, 0, 0, 0, []),
  (1828, .iconst (2), 1, 0, 0, 0, (2), 0, []),
  (1829, .iadd, 1, 0, 0, 0, 0, 0, []),
  (1830, .iaload, 1, 0, 0, 0, 0, 0, []),
  (1831, .invokevirtual 203, 3, 196, 3, 1, 0, 0, []),
  (1834, .aload_n 2, 1, 2, 0, 0, 0, 0, []),
  (1835, .aload_n 0, 1, 0, 0, 0, 0, 0, []),
  (1836, .iload_n 3, 1, 3, 0, 0, 0, 0, []),
  (1837, .iconst (1), 1, 0, 0, 0, (1), 0, []),
  (1838, .iadd, 1, 0, 0, 0, 0, 0, []),
  (1839, .iaload, 1, 0, 0, 0, 0, 0, []),
  (1840, .aload_n 0, 1, 0, 0, 0, 0, 0, []),
  (1841, .iload_n 3, 1, 3, 0, 0, 0, 0, []),
  (1842, .iconst (2), 1, 0, 0, 0, (2), 0, []),
  (1843, .iadd, 1, 0, 0, 0, 0, 0, []),
  (1844, .iaload, 1, 0, 0, 0, 0, 0, []),
  (1845, .invokevirtual 206, 3, 319, 3, 1, 0, 0, []),
  (1848, .if_icmp .eq (87), 3, 1935, 0, 0, 0, 0, []),
  (1851, .iconst (0), 1, 0, 0, 0, (0), 0, []),
  (1852, .ireturn, 1, 0, 0, 0, 0, 0, [])]
set_option maxRecDepth 100000 in
theorem lL_law_1820_ck : lL_law_1820.all (ra_ck mL_law 13) = true := by decide +kernel
def nL_law_1820 (N : Nat) (c18 : UInt32 → Nat → Nat → Int32 → ra_H → Option (Int32 × ra_H)) (a0 : UInt32) (a1 : Nat) (a2 : Nat) (a3 : Int32) (h : ra_H) : Option (Int32 × ra_H) :=
  (ra_xI h a0 (a3 + ((1 : Int32)))).bind fun x1 =>
  (ra_xI h a0 (a3 + ((2 : Int32)))).bind fun x2 =>
  (fX11_together N a1 x1 x2 h).bind fun q3 =>
  (ra_xI q3.2 a0 (a3 + ((1 : Int32)))).bind fun x4 =>
  (ra_xI q3.2 a0 (a3 + ((2 : Int32)))).bind fun x5 =>
  (fX12_together N a2 x4 x5 q3.2).bind fun q6 =>
  if q3.1 = q6.1 then
    nL_law_1935 N c18 a0 a1 a2 a3 q6.2
  else
    some ((0 : Int32), q6.2)
def kL_law_1820 (N : Nat) (c18 : UInt32 → Nat → Nat → Int32 → ra_H → Option (Int32 × ra_H)) : Nat → List (Option Value) → List Value → ra_H → Option (Int32 × ra_H) := (ra_k1 1935 (fun L S h => match L, S with
  | [some (.float a0), some (.ref a1), some (.ref a2), some (.int a3)], [] => nL_law_1935 N c18 a0 a1 a2 a3 h
  | _, _ => none) ra_k0)
theorem kL_law_1820_ok (N : Nat) (c18 : UInt32 → Nat → Nat → Int32 → ra_H → Option (Int32 × ra_H)) (hc18 : ∀ a0 a1 a2 a3 h r, c18 a0 a1 a2 a3 h = some r → ra_Ru 95 mL_law 18 [some (.float a0), some (.ref a1), some (.ref a2), some (.int a3)] [] h (ra_oI r)) : ra_kok 95 mL_law ra_oI (kL_law_1820 N c18) := (ra_k1_ok (by
  intro L S h a e
  split at e
  · exact ra_Ru.weak (nL_law_1935_ok N c18 hc18 _ _ _ _ _ _ e) ⟨rfl, ⟨rfl, ⟨rfl, ⟨rfl, trivial⟩⟩⟩⟩
  · cases e) ra_k0_ok)
set_option maxRecDepth 100000 in
theorem nL_law_1820_ok (N : Nat) (c18 : UInt32 → Nat → Nat → Int32 → ra_H → Option (Int32 × ra_H)) (hc18 : ∀ a0 a1 a2 a3 h r, c18 a0 a1 a2 a3 h = some r → ra_Ru 95 mL_law 18 [some (.float a0), some (.ref a1), some (.ref a2), some (.int a3)] [] h (ra_oI r)) (a0 : UInt32) (a1 : Nat) (a2 : Nat) (a3 : Int32) (h : ra_H) (r : (Int32 × ra_H)) (e : nL_law_1820 N c18 a0 a1 a2 a3 h = some r) : ra_Ru 95 mL_law 1820 [some (.float a0), some (.ref a1), some (.ref a2), some (.int a3)] [] h (ra_oI r) :=
  ra_sound (by omega) rfl ra_rI_ok (kL_law_1820_ok N c18 hc18) (fun m av h h1 e => (tVL_law_ok N) m av h h1 e) (fun m av h x h1 e => (tIL_law_ok N) m av h (x, h1) e) (fun m av h x h1 e => (ra_c0_ok (ro := ra_oJ)) m av h (x, h1) e) (fun m av h x h1 e => (ra_c0_ok (ro := ra_oR)) m av h (x, h1) e) (fun m av h x h1 e => (ra_c0_ok (ro := ra_oN)) m av h (x, h1) e) (fun m av h x h1 e => (ra_c0_ok (ro := ra_oF)) m av h (x, h1) e) 28 lL_law_1820 _ _ _ _ lL_law_1820_ck (show ra_run ra_rI (kL_law_1820 N c18) (tVL_law N) (tIL_law N) ra_c0 ra_c0 ra_c0 ra_c0 28 lL_law_1820 [some (.float a0), some (.ref a1), some (.ref a2), some (.int a3)] [] h = some r from e) _ _ rfl
def lL_law_1853 : List ra_I := [(1853, .aload_n 1, 1, 1, 0, 0, 0, 0, []),
  (1854, .aload_n 0, 1, 0, 0, 0, 0, 0, []),
  (1855, .iload_n 3, 1, 3, 0, 0, 0, 0, []),
  (1856, .iconst (1), 1, 0, 0, 0, (1), 0, []),
  (1857, .iadd, 1, 0, 0, 0, 0, 0, []),
  (1858, .iaload, 1, 0, 0, 0, 0, 0, []),
  (1859, .invokevirtual 207, 3, 199, 2, 1, 0, 0, []),
  (1862, .aload_n 2, 1, 2, 0, 0, 0, 0, []),
  (1863, .aload_n 0, 1, 0, 0, 0, 0, 0, []),
  (1864, .iload_n 3, 1, 3, 0, 0, 0, 0, []),
  (1865, .iconst (1), 1, 0, 0, 0, (1), 0, []),
  (1866, .iadd, 1, 0, 0, 0, 0, 0, []),
  (1867, .iaload, 1, 0, 0, 0, 0, 0, []),
  (1868, .invokevirtual 210, 3, 208, 2, 1, 0, 0, []),
  (1871, .if_icmp .eq (64), 3, 1935, 0, 0, 0, 0, []),
  (1874, .iconst (0), 1, 0, 0, 0, (0), 0, []),
  (1875, .ireturn, 1, 0, 0, 0, 0, 0, [])]
set_option maxRecDepth 100000 in
theorem lL_law_1853_ck : lL_law_1853.all (ra_ck mL_law 13) = true := by decide +kernel
def nL_law_1853 (N : Nat) (c18 : UInt32 → Nat → Nat → Int32 → ra_H → Option (Int32 × ra_H)) (a0 : UInt32) (a1 : Nat) (a2 : Nat) (a3 : Int32) (h : ra_H) : Option (Int32 × ra_H) :=
  (ra_xI h a0 (a3 + ((1 : Int32)))).bind fun x1 =>
  (fX11_image N a1 x1 h).bind fun q2 =>
  (ra_xI q2.2 a0 (a3 + ((1 : Int32)))).bind fun x3 =>
  (fX12_image N a2 x3 q2.2).bind fun q4 =>
  if q2.1 = q4.1 then
    nL_law_1935 N c18 a0 a1 a2 a3 q4.2
  else
    some ((0 : Int32), q4.2)
def kL_law_1853 (N : Nat) (c18 : UInt32 → Nat → Nat → Int32 → ra_H → Option (Int32 × ra_H)) : Nat → List (Option Value) → List Value → ra_H → Option (Int32 × ra_H) := (ra_k1 1935 (fun L S h => match L, S with
  | [some (.float a0), some (.ref a1), some (.ref a2), some (.int a3)], [] => nL_law_1935 N c18 a0 a1 a2 a3 h
  | _, _ => none) ra_k0)
theorem kL_law_1853_ok (N : Nat) (c18 : UInt32 → Nat → Nat → Int32 → ra_H → Option (Int32 × ra_H)) (hc18 : ∀ a0 a1 a2 a3 h r, c18 a0 a1 a2 a3 h = some r → ra_Ru 95 mL_law 18 [some (.float a0), some (.ref a1), some (.ref a2), some (.int a3)] [] h (ra_oI r)) : ra_kok 95 mL_law ra_oI (kL_law_1853 N c18) := (ra_k1_ok (by
  intro L S h a e
  split at e
  · exact ra_Ru.weak (nL_law_1935_ok N c18 hc18 _ _ _ _ _ _ e) ⟨rfl, ⟨rfl, ⟨rfl, ⟨rfl, trivial⟩⟩⟩⟩
  · cases e) ra_k0_ok)
set_option maxRecDepth 100000 in
theorem nL_law_1853_ok (N : Nat) (c18 : UInt32 → Nat → Nat → Int32 → ra_H → Option (Int32 × ra_H)) (hc18 : ∀ a0 a1 a2 a3 h r, c18 a0 a1 a2 a3 h = some r → ra_Ru 95 mL_law 18 [some (.float a0), some (.ref a1), some (.ref a2), some (.int a3)] [] h (ra_oI r)) (a0 : UInt32) (a1 : Nat) (a2 : Nat) (a3 : Int32) (h : ra_H) (r : (Int32 × ra_H)) (e : nL_law_1853 N c18 a0 a1 a2 a3 h = some r) : ra_Ru 95 mL_law 1853 [some (.float a0), some (.ref a1), some (.ref a2), some (.int a3)] [] h (ra_oI r) :=
  ra_sound (by omega) rfl ra_rI_ok (kL_law_1853_ok N c18 hc18) (fun m av h h1 e => (tVL_law_ok N) m av h h1 e) (fun m av h x h1 e => (tIL_law_ok N) m av h (x, h1) e) (fun m av h x h1 e => (ra_c0_ok (ro := ra_oJ)) m av h (x, h1) e) (fun m av h x h1 e => (ra_c0_ok (ro := ra_oR)) m av h (x, h1) e) (fun m av h x h1 e => (ra_c0_ok (ro := ra_oN)) m av h (x, h1) e) (fun m av h x h1 e => (ra_c0_ok (ro := ra_oF)) m av h (x, h1) e) 18 lL_law_1853 _ _ _ _ lL_law_1853_ck (show ra_run ra_rI (kL_law_1853 N c18) (tVL_law N) (tIL_law N) ra_c0 ra_c0 ra_c0 ra_c0 18 lL_law_1853 [some (.float a0), some (.ref a1), some (.ref a2), some (.int a3)] [] h = some r from e) _ _ rfl
def lL_law_1876 : List ra_I := [(1876, .aload_n 1, 1, 1, 0, 0, 0, 0, []),
  (1877, .aload_n 0, 1, 0, 0, 0, 0, 0, []),
  (1878, .iload_n 3, 1, 3, 0, 0, 0, 0, []),
  (1879, .iconst (1), 1, 0, 0, 0, (1), 0, []),
  (1880, .iadd, 1, 0, 0, 0, 0, 0, []),
  (1881, .iaload, 1, 0, 0, 0, 0, 0, []),
  (1882, .invokevirtual 211, 3, 202, 2, 1, 0, 0, []),
  (1885, .aload_n 2, 1, 2, 0, 0, 0, 0, []),
  (1886, .aload_n 0, 1, 0, 0, 0, 0, 0, []),
  (1887, .iload_n 3, 1, 3, 0, 0, 0, 0, []),
  (1888, .iconst (1), 1, 0, 0, 0, (1), 0, []),
  (1889, .iadd, 1, 0, 0, 0, 0, 0, []),
  (1890, .iaload, 1, 0, 0, 0, 0, 0, []),
  (1891, .invokevirtual 214, 3, 211, 2, 1, 0, 0, []),
  (1894, .if_icmp .eq (41), 3, 1935, 0, 0, 0, 0, []),
  (1897, .iconst (0), 1, 0, 0, 0, (0), 0, []),
  (1898, .ireturn, 1, 0, 0, 0, 0, 0, [])]
set_option maxRecDepth 100000 in
theorem lL_law_1876_ck : lL_law_1876.all (ra_ck mL_law 13) = true := by decide +kernel
def nL_law_1876 (N : Nat) (c18 : UInt32 → Nat → Nat → Int32 → ra_H → Option (Int32 × ra_H)) (a0 : UInt32) (a1 : Nat) (a2 : Nat) (a3 : Int32) (h : ra_H) : Option (Int32 × ra_H) :=
  (ra_xI h a0 (a3 + ((1 : Int32)))).bind fun x1 =>
  (fX11_back N a1 x1 h).bind fun q2 =>
  (ra_xI q2.2 a0 (a3 + ((1 : Int32)))).bind fun x3 =>
  (fX12_back N a2 x3 q2.2).bind fun q4 =>
  if q2.1 = q4.1 then
    nL_law_1935 N c18 a0 a1 a2 a3 q4.2
  else
    some ((0 : Int32), q4.2)
def kL_law_1876 (N : Nat) (c18 : UInt32 → Nat → Nat → Int32 → ra_H → Option (Int32 × ra_H)) : Nat → List (Option Value) → List Value → ra_H → Option (Int32 × ra_H) := (ra_k1 1935 (fun L S h => match L, S with
  | [some (.float a0), some (.ref a1), some (.ref a2), some (.int a3)], [] => nL_law_1935 N c18 a0 a1 a2 a3 h
  | _, _ => none) ra_k0)
theorem kL_law_1876_ok (N : Nat) (c18 : UInt32 → Nat → Nat → Int32 → ra_H → Option (Int32 × ra_H)) (hc18 : ∀ a0 a1 a2 a3 h r, c18 a0 a1 a2 a3 h = some r → ra_Ru 95 mL_law 18 [some (.float a0), some (.ref a1), some (.ref a2), some (.int a3)] [] h (ra_oI r)) : ra_kok 95 mL_law ra_oI (kL_law_1876 N c18) := (ra_k1_ok (by
  intro L S h a e
  split at e
  · exact ra_Ru.weak (nL_law_1935_ok N c18 hc18 _ _ _ _ _ _ e) ⟨rfl, ⟨rfl, ⟨rfl, ⟨rfl, trivial⟩⟩⟩⟩
  · cases e) ra_k0_ok)
set_option maxRecDepth 100000 in
theorem nL_law_1876_ok (N : Nat) (c18 : UInt32 → Nat → Nat → Int32 → ra_H → Option (Int32 × ra_H)) (hc18 : ∀ a0 a1 a2 a3 h r, c18 a0 a1 a2 a3 h = some r → ra_Ru 95 mL_law 18 [some (.float a0), some (.ref a1), some (.ref a2), some (.int a3)] [] h (ra_oI r)) (a0 : UInt32) (a1 : Nat) (a2 : Nat) (a3 : Int32) (h : ra_H) (r : (Int32 × ra_H)) (e : nL_law_1876 N c18 a0 a1 a2 a3 h = some r) : ra_Ru 95 mL_law 1876 [some (.float a0), some (.ref a1), some (.ref a2), some (.int a3)] [] h (ra_oI r) :=
  ra_sound (by omega) rfl ra_rI_ok (kL_law_1876_ok N c18 hc18) (fun m av h h1 e => (tVL_law_ok N) m av h h1 e) (fun m av h x h1 e => (tIL_law_ok N) m av h (x, h1) e) (fun m av h x h1 e => (ra_c0_ok (ro := ra_oJ)) m av h (x, h1) e) (fun m av h x h1 e => (ra_c0_ok (ro := ra_oR)) m av h (x, h1) e) (fun m av h x h1 e => (ra_c0_ok (ro := ra_oN)) m av h (x, h1) e) (fun m av h x h1 e => (ra_c0_ok (ro := ra_oF)) m av h (x, h1) e) 18 lL_law_1876 _ _ _ _ lL_law_1876_ck (show ra_run ra_rI (kL_law_1876 N c18) (tVL_law N) (tIL_law N) ra_c0 ra_c0 ra_c0 ra_c0 18 lL_law_1876 [some (.float a0), some (.ref a1), some (.ref a2), some (.int a3)] [] h = some r from e) _ _ rfl
def lL_law_1899 : List ra_I := [(1899, .aload_n 1, 1, 1, 0, 0, 0, 0, []),
  (1900, .aload_n 0, 1, 0, 0, 0, 0, 0, []),
  (1901, .iload_n 3, 1, 3, 0, 0, 0, 0, []),
  (1902, .iconst (1), 1, 0, 0, 0, (1), 0, []),
  (1903, .iadd, 1, 0, 0, 0, 0, 0, []),
  (1904, .iaload, 1, 0, 0, 0, 0, 0, []),
  (1905, .invokevirtual 215, 3, 204, 2, 1, 0, 0, []),
  (1908, .aload_n 2, 1, 2, 0, 0, 0, 0, []),
  (1909, .aload_n 0, 1, 0, 0, 0, 0, 0, []),
  (1910, .iload_n 3, 1, 3, 0, 0, 0, 0, []),
  (1911, .iconst (1), 1, 0, 0, 0, (1), 0, []),
  (1912, .iadd, 1, 0, 0, 0, 0, 0, []),
  (1913, .iaload, 1, 0, 0, 0, 0, 0, []),
  (1914, .invokevirtual 218, 3, 321, 2, 1, 0, 0, []),
  (1917, .if_icmp .eq (18), 3, 1935, 0, 0, 0, 0, []),
  (1920, .iconst (0), 1, 0, 0, 0, (0), 0, []),
  (1921, .ireturn, 1, 0, 0, 0, 0, 0, [])]
set_option maxRecDepth 100000 in
theorem lL_law_1899_ck : lL_law_1899.all (ra_ck mL_law 13) = true := by decide +kernel
def nL_law_1899 (N : Nat) (c18 : UInt32 → Nat → Nat → Int32 → ra_H → Option (Int32 × ra_H)) (a0 : UInt32) (a1 : Nat) (a2 : Nat) (a3 : Int32) (h : ra_H) : Option (Int32 × ra_H) :=
  (ra_xI h a0 (a3 + ((1 : Int32)))).bind fun x1 =>
  (fX11_count N a1 x1 h).bind fun q2 =>
  (ra_xI q2.2 a0 (a3 + ((1 : Int32)))).bind fun x3 =>
  (fX12_count N a2 x3 q2.2).bind fun q4 =>
  if q2.1 = q4.1 then
    nL_law_1935 N c18 a0 a1 a2 a3 q4.2
  else
    some ((0 : Int32), q4.2)
def kL_law_1899 (N : Nat) (c18 : UInt32 → Nat → Nat → Int32 → ra_H → Option (Int32 × ra_H)) : Nat → List (Option Value) → List Value → ra_H → Option (Int32 × ra_H) := (ra_k1 1935 (fun L S h => match L, S with
  | [some (.float a0), some (.ref a1), some (.ref a2), some (.int a3)], [] => nL_law_1935 N c18 a0 a1 a2 a3 h
  | _, _ => none) ra_k0)
theorem kL_law_1899_ok (N : Nat) (c18 : UInt32 → Nat → Nat → Int32 → ra_H → Option (Int32 × ra_H)) (hc18 : ∀ a0 a1 a2 a3 h r, c18 a0 a1 a2 a3 h = some r → ra_Ru 95 mL_law 18 [some (.float a0), some (.ref a1), some (.ref a2), some (.int a3)] [] h (ra_oI r)) : ra_kok 95 mL_law ra_oI (kL_law_1899 N c18) := (ra_k1_ok (by
  intro L S h a e
  split at e
  · exact ra_Ru.weak (nL_law_1935_ok N c18 hc18 _ _ _ _ _ _ e) ⟨rfl, ⟨rfl, ⟨rfl, ⟨rfl, trivial⟩⟩⟩⟩
  · cases e) ra_k0_ok)
set_option maxRecDepth 100000 in
theorem nL_law_1899_ok (N : Nat) (c18 : UInt32 → Nat → Nat → Int32 → ra_H → Option (Int32 × ra_H)) (hc18 : ∀ a0 a1 a2 a3 h r, c18 a0 a1 a2 a3 h = some r → ra_Ru 95 mL_law 18 [some (.float a0), some (.ref a1), some (.ref a2), some (.int a3)] [] h (ra_oI r)) (a0 : UInt32) (a1 : Nat) (a2 : Nat) (a3 : Int32) (h : ra_H) (r : (Int32 × ra_H)) (e : nL_law_1899 N c18 a0 a1 a2 a3 h = some r) : ra_Ru 95 mL_law 1899 [some (.float a0), some (.ref a1), some (.ref a2), some (.int a3)] [] h (ra_oI r) :=
  ra_sound (by omega) rfl ra_rI_ok (kL_law_1899_ok N c18 hc18) (fun m av h h1 e => (tVL_law_ok N) m av h h1 e) (fun m av h x h1 e => (tIL_law_ok N) m av h (x, h1) e) (fun m av h x h1 e => (ra_c0_ok (ro := ra_oJ)) m av h (x, h1) e) (fun m av h x h1 e => (ra_c0_ok (ro := ra_oR)) m av h (x, h1) e) (fun m av h x h1 e => (ra_c0_ok (ro := ra_oN)) m av h (x, h1) e) (fun m av h x h1 e => (ra_c0_ok (ro := ra_oF)) m av h (x, h1) e) 18 lL_law_1899 _ _ _ _ lL_law_1899_ck (show ra_run ra_rI (kL_law_1899 N c18) (tVL_law N) (tIL_law N) ra_c0 ra_c0 ra_c0 ra_c0 18 lL_law_1899 [some (.float a0), some (.ref a1), some (.ref a2), some (.int a3)] [] h = some r from e) _ _ rfl
def lL_law_1922 : List ra_I := [(1922, .aload_n 1, 1, 1, 0, 0, 0, 0, []),
  (1923, .invokevirtual 219, 3, 206, 1, 1, 0, 0, []),
  (1926, .aload_n 2, 1, 2, 0, 0, 0, 0, []),
  (1927, .invokevirtual 222, 3, 322, 1, 1, 0, 0, []),
  (1930, .if_icmp .eq (5), 3, 1935, 0, 0, 0, 0, []),
  (1933, .iconst (0), 1, 0, 0, 0, (0), 0, []),
  (1934, .ireturn, 1, 0, 0, 0, 0, 0, [])]
set_option maxRecDepth 100000 in
theorem lL_law_1922_ck : lL_law_1922.all (ra_ck mL_law 13) = true := by decide +kernel
def nL_law_1922 (N : Nat) (c18 : UInt32 → Nat → Nat → Int32 → ra_H → Option (Int32 × ra_H)) (a0 : UInt32) (a1 : Nat) (a2 : Nat) (a3 : Int32) (h : ra_H) : Option (Int32 × ra_H) :=
  (fX11_status N a1 h).bind fun q1 =>
  (fX12_status N a2 q1.2).bind fun q2 =>
  if q1.1 = q2.1 then
    nL_law_1935 N c18 a0 a1 a2 a3 q2.2
  else
    some ((0 : Int32), q2.2)
def kL_law_1922 (N : Nat) (c18 : UInt32 → Nat → Nat → Int32 → ra_H → Option (Int32 × ra_H)) : Nat → List (Option Value) → List Value → ra_H → Option (Int32 × ra_H) := (ra_k1 1935 (fun L S h => match L, S with
  | [some (.float a0), some (.ref a1), some (.ref a2), some (.int a3)], [] => nL_law_1935 N c18 a0 a1 a2 a3 h
  | _, _ => none) ra_k0)
theorem kL_law_1922_ok (N : Nat) (c18 : UInt32 → Nat → Nat → Int32 → ra_H → Option (Int32 × ra_H)) (hc18 : ∀ a0 a1 a2 a3 h r, c18 a0 a1 a2 a3 h = some r → ra_Ru 95 mL_law 18 [some (.float a0), some (.ref a1), some (.ref a2), some (.int a3)] [] h (ra_oI r)) : ra_kok 95 mL_law ra_oI (kL_law_1922 N c18) := (ra_k1_ok (by
  intro L S h a e
  split at e
  · exact ra_Ru.weak (nL_law_1935_ok N c18 hc18 _ _ _ _ _ _ e) ⟨rfl, ⟨rfl, ⟨rfl, ⟨rfl, trivial⟩⟩⟩⟩
  · cases e) ra_k0_ok)
set_option maxRecDepth 100000 in
theorem nL_law_1922_ok (N : Nat) (c18 : UInt32 → Nat → Nat → Int32 → ra_H → Option (Int32 × ra_H)) (hc18 : ∀ a0 a1 a2 a3 h r, c18 a0 a1 a2 a3 h = some r → ra_Ru 95 mL_law 18 [some (.float a0), some (.ref a1), some (.ref a2), some (.int a3)] [] h (ra_oI r)) (a0 : UInt32) (a1 : Nat) (a2 : Nat) (a3 : Int32) (h : ra_H) (r : (Int32 × ra_H)) (e : nL_law_1922 N c18 a0 a1 a2 a3 h = some r) : ra_Ru 95 mL_law 1922 [some (.float a0), some (.ref a1), some (.ref a2), some (.int a3)] [] h (ra_oI r) :=
  ra_sound (by omega) rfl ra_rI_ok (kL_law_1922_ok N c18 hc18) (fun m av h h1 e => (tVL_law_ok N) m av h h1 e) (fun m av h x h1 e => (tIL_law_ok N) m av h (x, h1) e) (fun m av h x h1 e => (ra_c0_ok (ro := ra_oJ)) m av h (x, h1) e) (fun m av h x h1 e => (ra_c0_ok (ro := ra_oR)) m av h (x, h1) e) (fun m av h x h1 e => (ra_c0_ok (ro := ra_oN)) m av h (x, h1) e) (fun m av h x h1 e => (ra_c0_ok (ro := ra_oF)) m av h (x, h1) e) 8 lL_law_1922 _ _ _ _ lL_law_1922_ck (show ra_run ra_rI (kL_law_1922 N c18) (tVL_law N) (tIL_law N) ra_c0 ra_c0 ra_c0 ra_c0 8 lL_law_1922 [some (.float a0), some (.ref a1), some (.ref a2), some (.int a3)] [] h = some r from e) _ _ rfl
def lL_law_18 : List ra_I := [(18, .iload_n 3, 1, 3, 0, 0, 0, 0, []),
  (19, .aload_n 0, 1, 0, 0, 0, 0, 0, []),
  (20, .arraylength, 1, 0, 0, 0, 0, 0, []),
  (21, .bipush (6), 2, 0, 0, 0, (6), 0, []),
  (23, .isub, 1, 0, 0, 0, 0, 0, []),
  (24, .if_icmp .gt (1917), 3, 1941, 0, 0, 0, 0, []),
  (27, .aload_n 0, 1, 0, 0, 0, 0, 0, []),
  (28, .iload_n 3, 1, 3, 0, 0, 0, 0, []),
  (29, .iaload, 1, 0, 0, 0, 0, 0, []),
  (30, .bipush (63), 2, 0, 0, 0, (63), 0, []),
  (32, .iand, 1, 0, 0, 0, 0, 0, []),
  (33, .tableswitch (1902) (0) (50) #[219, 282, 325, 368, 401, 434, 487, 550, 573, 586, 599, 612, 625, 668, 711, 734, 777, 800, 843, 876, 929, 982, 1045, 1078, 1111, 1154, 1177, 1220, 1243, 1276, 1309, 1342, 1365, 1398, 1441, 1484, 1517, 1540, 1553, 1576, 1629, 1652, 1665, 1688, 1731, 1764, 1787, 1820, 1843, 1866, 1889], 219, 1935, 0, 0, 0, 0, [(0, 252), (1, 315), (2, 358), (3, 401), (4, 434), (5, 467), (6, 520), (7, 583), (8, 606), (9, 619), (10, 632), (11, 645), (12, 658), (13, 701), (14, 744), (15, 767), (16, 810), (17, 833), (18, 876), (19, 909), (20, 962), (21, 1015), (22, 1078), (23, 1111), (24, 1144), (25, 1187), (26, 1210), (27, 1253), (28, 1276), (29, 1309), (30, 1342), (31, 1375), (32, 1398), (33, 1431), (34, 1474), (35, 1517), (36, 1550), (37, 1573), (38, 1586), (39, 1609), (40, 1662), (41, 1685), (42, 1698), (43, 1721), (44, 1764), (45, 1797), (46, 1820), (47, 1853), (48, 1876), (49, 1899), (50, 1922)]),
  (1941, .iconst (1), 1, 0, 0, 0, (1), 0, []),
  (1942, .ireturn, 1, 0, 0, 0, 0, 0, [])]
set_option maxRecDepth 100000 in
theorem lL_law_18_ck : lL_law_18.all (ra_ck mL_law 13) = true := by decide +kernel
def nL_law_18 (N : Nat) : Nat → UInt32 → Nat → Nat → Int32 → ra_H → Option (Int32 × ra_H)
  | 0, _, _, _, _, _ => none
  | n + 1, a0, a1, a2, a3, h =>
  (ra_xL h a0).bind fun x1 =>
  if a3 ≤ (x1 - ((6 : Int32))) then
    (ra_xI h a0 a3).bind fun x2 =>
    if (x2 &&& ((63 : Int32))) = (0 : Int32) then
      nL_law_252 N (nL_law_18 N n) a0 a1 a2 a3 h
    else
    if (x2 &&& ((63 : Int32))) = (1 : Int32) then
      nL_law_315 N (nL_law_18 N n) a0 a1 a2 a3 h
    else
    if (x2 &&& ((63 : Int32))) = (2 : Int32) then
      nL_law_358 N (nL_law_18 N n) a0 a1 a2 a3 h
    else
    if (x2 &&& ((63 : Int32))) = (3 : Int32) then
      nL_law_401 N (nL_law_18 N n) a0 a1 a2 a3 h
    else
    if (x2 &&& ((63 : Int32))) = (4 : Int32) then
      nL_law_434 N (nL_law_18 N n) a0 a1 a2 a3 h
    else
    if (x2 &&& ((63 : Int32))) = (5 : Int32) then
      nL_law_467 N (nL_law_18 N n) a0 a1 a2 a3 h
    else
    if (x2 &&& ((63 : Int32))) = (6 : Int32) then
      nL_law_520 N (nL_law_18 N n) a0 a1 a2 a3 h
    else
    if (x2 &&& ((63 : Int32))) = (7 : Int32) then
      nL_law_583 N (nL_law_18 N n) a0 a1 a2 a3 h
    else
    if (x2 &&& ((63 : Int32))) = (8 : Int32) then
      nL_law_606 N (nL_law_18 N n) a0 a1 a2 a3 h
    else
    if (x2 &&& ((63 : Int32))) = (9 : Int32) then
      nL_law_619 N (nL_law_18 N n) a0 a1 a2 a3 h
    else
    if (x2 &&& ((63 : Int32))) = (10 : Int32) then
      nL_law_632 N (nL_law_18 N n) a0 a1 a2 a3 h
    else
    if (x2 &&& ((63 : Int32))) = (11 : Int32) then
      nL_law_645 N (nL_law_18 N n) a0 a1 a2 a3 h
    else
    if (x2 &&& ((63 : Int32))) = (12 : Int32) then
      nL_law_658 N (nL_law_18 N n) a0 a1 a2 a3 h
    else
    if (x2 &&& ((63 : Int32))) = (13 : Int32) then
      nL_law_701 N (nL_law_18 N n) a0 a1 a2 a3 h
    else
    if (x2 &&& ((63 : Int32))) = (14 : Int32) then
      nL_law_744 N (nL_law_18 N n) a0 a1 a2 a3 h
    else
    if (x2 &&& ((63 : Int32))) = (15 : Int32) then
      nL_law_767 N (nL_law_18 N n) a0 a1 a2 a3 h
    else
    if (x2 &&& ((63 : Int32))) = (16 : Int32) then
      nL_law_810 N (nL_law_18 N n) a0 a1 a2 a3 h
    else
    if (x2 &&& ((63 : Int32))) = (17 : Int32) then
      nL_law_833 N (nL_law_18 N n) a0 a1 a2 a3 h
    else
    if (x2 &&& ((63 : Int32))) = (18 : Int32) then
      nL_law_876 N (nL_law_18 N n) a0 a1 a2 a3 h
    else
    if (x2 &&& ((63 : Int32))) = (19 : Int32) then
      nL_law_909 N (nL_law_18 N n) a0 a1 a2 a3 h
    else
    if (x2 &&& ((63 : Int32))) = (20 : Int32) then
      nL_law_962 N (nL_law_18 N n) a0 a1 a2 a3 h
    else
    if (x2 &&& ((63 : Int32))) = (21 : Int32) then
      nL_law_1015 N (nL_law_18 N n) a0 a1 a2 a3 h
    else
    if (x2 &&& ((63 : Int32))) = (22 : Int32) then
      nL_law_1078 N (nL_law_18 N n) a0 a1 a2 a3 h
    else
    if (x2 &&& ((63 : Int32))) = (23 : Int32) then
      nL_law_1111 N (nL_law_18 N n) a0 a1 a2 a3 h
    else
    if (x2 &&& ((63 : Int32))) = (24 : Int32) then
      nL_law_1144 N (nL_law_18 N n) a0 a1 a2 a3 h
    else
    if (x2 &&& ((63 : Int32))) = (25 : Int32) then
      nL_law_1187 N (nL_law_18 N n) a0 a1 a2 a3 h
    else
    if (x2 &&& ((63 : Int32))) = (26 : Int32) then
      nL_law_1210 N (nL_law_18 N n) a0 a1 a2 a3 h
    else
    if (x2 &&& ((63 : Int32))) = (27 : Int32) then
      nL_law_1253 N (nL_law_18 N n) a0 a1 a2 a3 h
    else
    if (x2 &&& ((63 : Int32))) = (28 : Int32) then
      nL_law_1276 N (nL_law_18 N n) a0 a1 a2 a3 h
    else
    if (x2 &&& ((63 : Int32))) = (29 : Int32) then
      nL_law_1309 N (nL_law_18 N n) a0 a1 a2 a3 h
    else
    if (x2 &&& ((63 : Int32))) = (30 : Int32) then
      nL_law_1342 N (nL_law_18 N n) a0 a1 a2 a3 h
    else
    if (x2 &&& ((63 : Int32))) = (31 : Int32) then
      nL_law_1375 N (nL_law_18 N n) a0 a1 a2 a3 h
    else
    if (x2 &&& ((63 : Int32))) = (32 : Int32) then
      nL_law_1398 N (nL_law_18 N n) a0 a1 a2 a3 h
    else
    if (x2 &&& ((63 : Int32))) = (33 : Int32) then
      nL_law_1431 N (nL_law_18 N n) a0 a1 a2 a3 h
    else
    if (x2 &&& ((63 : Int32))) = (34 : Int32) then
      nL_law_1474 N (nL_law_18 N n) a0 a1 a2 a3 h
    else
    if (x2 &&& ((63 : Int32))) = (35 : Int32) then
      nL_law_1517 N (nL_law_18 N n) a0 a1 a2 a3 h
    else
    if (x2 &&& ((63 : Int32))) = (36 : Int32) then
      nL_law_1550 N (nL_law_18 N n) a0 a1 a2 a3 h
    else
    if (x2 &&& ((63 : Int32))) = (37 : Int32) then
      nL_law_1573 N (nL_law_18 N n) a0 a1 a2 a3 h
    else
    if (x2 &&& ((63 : Int32))) = (38 : Int32) then
      nL_law_1586 N (nL_law_18 N n) a0 a1 a2 a3 h
    else
    if (x2 &&& ((63 : Int32))) = (39 : Int32) then
      nL_law_1609 N (nL_law_18 N n) a0 a1 a2 a3 h
    else
    if (x2 &&& ((63 : Int32))) = (40 : Int32) then
      nL_law_1662 N (nL_law_18 N n) a0 a1 a2 a3 h
    else
    if (x2 &&& ((63 : Int32))) = (41 : Int32) then
      nL_law_1685 N (nL_law_18 N n) a0 a1 a2 a3 h
    else
    if (x2 &&& ((63 : Int32))) = (42 : Int32) then
      nL_law_1698 N (nL_law_18 N n) a0 a1 a2 a3 h
    else
    if (x2 &&& ((63 : Int32))) = (43 : Int32) then
      nL_law_1721 N (nL_law_18 N n) a0 a1 a2 a3 h
    else
    if (x2 &&& ((63 : Int32))) = (44 : Int32) then
      nL_law_1764 N (nL_law_18 N n) a0 a1 a2 a3 h
    else
    if (x2 &&& ((63 : Int32))) = (45 : Int32) then
      nL_law_1797 N (nL_law_18 N n) a0 a1 a2 a3 h
    else
    if (x2 &&& ((63 : Int32))) = (46 : Int32) then
      nL_law_1820 N (nL_law_18 N n) a0 a1 a2 a3 h
    else
    if (x2 &&& ((63 : Int32))) = (47 : Int32) then
      nL_law_1853 N (nL_law_18 N n) a0 a1 a2 a3 h
    else
    if (x2 &&& ((63 : Int32))) = (48 : Int32) then
      nL_law_1876 N (nL_law_18 N n) a0 a1 a2 a3 h
    else
    if (x2 &&& ((63 : Int32))) = (49 : Int32) then
      nL_law_1899 N (nL_law_18 N n) a0 a1 a2 a3 h
    else
    if (x2 &&& ((63 : Int32))) = (50 : Int32) then
      nL_law_1922 N (nL_law_18 N n) a0 a1 a2 a3 h
    else
    nL_law_1935 N (nL_law_18 N n) a0 a1 a2 a3 h
  else
    some ((1 : Int32), h)
def kL_law_18 (N : Nat) (cs : UInt32 → Nat → Nat → Int32 → ra_H → Option (Int32 × ra_H)) : Nat → List (Option Value) → List Value → ra_H → Option (Int32 × ra_H) := (ra_k1 252 (fun L S h => match L, S with
  | [some (.float a0), some (.ref a1), some (.ref a2), some (.int a3)], [] => nL_law_252 N cs a0 a1 a2 a3 h
  | _, _ => none) (ra_k1 315 (fun L S h => match L, S with
  | [some (.float a0), some (.ref a1), some (.ref a2), some (.int a3)], [] => nL_law_315 N cs a0 a1 a2 a3 h
  | _, _ => none) (ra_k1 358 (fun L S h => match L, S with
  | [some (.float a0), some (.ref a1), some (.ref a2), some (.int a3)], [] => nL_law_358 N cs a0 a1 a2 a3 h
  | _, _ => none) (ra_k1 401 (fun L S h => match L, S with
  | [some (.float a0), some (.ref a1), some (.ref a2), some (.int a3)], [] => nL_law_401 N cs a0 a1 a2 a3 h
  | _, _ => none) (ra_k1 434 (fun L S h => match L, S with
  | [some (.float a0), some (.ref a1), some (.ref a2), some (.int a3)], [] => nL_law_434 N cs a0 a1 a2 a3 h
  | _, _ => none) (ra_k1 467 (fun L S h => match L, S with
  | [some (.float a0), some (.ref a1), some (.ref a2), some (.int a3)], [] => nL_law_467 N cs a0 a1 a2 a3 h
  | _, _ => none) (ra_k1 520 (fun L S h => match L, S with
  | [some (.float a0), some (.ref a1), some (.ref a2), some (.int a3)], [] => nL_law_520 N cs a0 a1 a2 a3 h
  | _, _ => none) (ra_k1 583 (fun L S h => match L, S with
  | [some (.float a0), some (.ref a1), some (.ref a2), some (.int a3)], [] => nL_law_583 N cs a0 a1 a2 a3 h
  | _, _ => none) (ra_k1 606 (fun L S h => match L, S with
  | [some (.float a0), some (.ref a1), some (.ref a2), some (.int a3)], [] => nL_law_606 N cs a0 a1 a2 a3 h
  | _, _ => none) (ra_k1 619 (fun L S h => match L, S with
  | [some (.float a0), some (.ref a1), some (.ref a2), some (.int a3)], [] => nL_law_619 N cs a0 a1 a2 a3 h
  | _, _ => none) (ra_k1 632 (fun L S h => match L, S with
  | [some (.float a0), some (.ref a1), some (.ref a2), some (.int a3)], [] => nL_law_632 N cs a0 a1 a2 a3 h
  | _, _ => none) (ra_k1 645 (fun L S h => match L, S with
  | [some (.float a0), some (.ref a1), some (.ref a2), some (.int a3)], [] => nL_law_645 N cs a0 a1 a2 a3 h
  | _, _ => none) (ra_k1 658 (fun L S h => match L, S with
  | [some (.float a0), some (.ref a1), some (.ref a2), some (.int a3)], [] => nL_law_658 N cs a0 a1 a2 a3 h
  | _, _ => none) (ra_k1 701 (fun L S h => match L, S with
  | [some (.float a0), some (.ref a1), some (.ref a2), some (.int a3)], [] => nL_law_701 N cs a0 a1 a2 a3 h
  | _, _ => none) (ra_k1 744 (fun L S h => match L, S with
  | [some (.float a0), some (.ref a1), some (.ref a2), some (.int a3)], [] => nL_law_744 N cs a0 a1 a2 a3 h
  | _, _ => none) (ra_k1 767 (fun L S h => match L, S with
  | [some (.float a0), some (.ref a1), some (.ref a2), some (.int a3)], [] => nL_law_767 N cs a0 a1 a2 a3 h
  | _, _ => none) (ra_k1 810 (fun L S h => match L, S with
  | [some (.float a0), some (.ref a1), some (.ref a2), some (.int a3)], [] => nL_law_810 N cs a0 a1 a2 a3 h
  | _, _ => none) (ra_k1 833 (fun L S h => match L, S with
  | [some (.float a0), some (.ref a1), some (.ref a2), some (.int a3)], [] => nL_law_833 N cs a0 a1 a2 a3 h
  | _, _ => none) (ra_k1 876 (fun L S h => match L, S with
  | [some (.float a0), some (.ref a1), some (.ref a2), some (.int a3)], [] => nL_law_876 N cs a0 a1 a2 a3 h
  | _, _ => none) (ra_k1 909 (fun L S h => match L, S with
  | [some (.float a0), some (.ref a1), some (.ref a2), some (.int a3)], [] => nL_law_909 N cs a0 a1 a2 a3 h
  | _, _ => none) (ra_k1 962 (fun L S h => match L, S with
  | [some (.float a0), some (.ref a1), some (.ref a2), some (.int a3)], [] => nL_law_962 N cs a0 a1 a2 a3 h
  | _, _ => none) (ra_k1 1015 (fun L S h => match L, S with
  | [some (.float a0), some (.ref a1), some (.ref a2), some (.int a3)], [] => nL_law_1015 N cs a0 a1 a2 a3 h
  | _, _ => none) (ra_k1 1078 (fun L S h => match L, S with
  | [some (.float a0), some (.ref a1), some (.ref a2), some (.int a3)], [] => nL_law_1078 N cs a0 a1 a2 a3 h
  | _, _ => none) (ra_k1 1111 (fun L S h => match L, S with
  | [some (.float a0), some (.ref a1), some (.ref a2), some (.int a3)], [] => nL_law_1111 N cs a0 a1 a2 a3 h
  | _, _ => none) (ra_k1 1144 (fun L S h => match L, S with
  | [some (.float a0), some (.ref a1), some (.ref a2), some (.int a3)], [] => nL_law_1144 N cs a0 a1 a2 a3 h
  | _, _ => none) (ra_k1 1187 (fun L S h => match L, S with
  | [some (.float a0), some (.ref a1), some (.ref a2), some (.int a3)], [] => nL_law_1187 N cs a0 a1 a2 a3 h
  | _, _ => none) (ra_k1 1210 (fun L S h => match L, S with
  | [some (.float a0), some (.ref a1), some (.ref a2), some (.int a3)], [] => nL_law_1210 N cs a0 a1 a2 a3 h
  | _, _ => none) (ra_k1 1253 (fun L S h => match L, S with
  | [some (.float a0), some (.ref a1), some (.ref a2), some (.int a3)], [] => nL_law_1253 N cs a0 a1 a2 a3 h
  | _, _ => none) (ra_k1 1276 (fun L S h => match L, S with
  | [some (.float a0), some (.ref a1), some (.ref a2), some (.int a3)], [] => nL_law_1276 N cs a0 a1 a2 a3 h
  | _, _ => none) (ra_k1 1309 (fun L S h => match L, S with
  | [some (.float a0), some (.ref a1), some (.ref a2), some (.int a3)], [] => nL_law_1309 N cs a0 a1 a2 a3 h
  | _, _ => none) (ra_k1 1342 (fun L S h => match L, S with
  | [some (.float a0), some (.ref a1), some (.ref a2), some (.int a3)], [] => nL_law_1342 N cs a0 a1 a2 a3 h
  | _, _ => none) (ra_k1 1375 (fun L S h => match L, S with
  | [some (.float a0), some (.ref a1), some (.ref a2), some (.int a3)], [] => nL_law_1375 N cs a0 a1 a2 a3 h
  | _, _ => none) (ra_k1 1398 (fun L S h => match L, S with
  | [some (.float a0), some (.ref a1), some (.ref a2), some (.int a3)], [] => nL_law_1398 N cs a0 a1 a2 a3 h
  | _, _ => none) (ra_k1 1431 (fun L S h => match L, S with
  | [some (.float a0), some (.ref a1), some (.ref a2), some (.int a3)], [] => nL_law_1431 N cs a0 a1 a2 a3 h
  | _, _ => none) (ra_k1 1474 (fun L S h => match L, S with
  | [some (.float a0), some (.ref a1), some (.ref a2), some (.int a3)], [] => nL_law_1474 N cs a0 a1 a2 a3 h
  | _, _ => none) (ra_k1 1517 (fun L S h => match L, S with
  | [some (.float a0), some (.ref a1), some (.ref a2), some (.int a3)], [] => nL_law_1517 N cs a0 a1 a2 a3 h
  | _, _ => none) (ra_k1 1550 (fun L S h => match L, S with
  | [some (.float a0), some (.ref a1), some (.ref a2), some (.int a3)], [] => nL_law_1550 N cs a0 a1 a2 a3 h
  | _, _ => none) (ra_k1 1573 (fun L S h => match L, S with
  | [some (.float a0), some (.ref a1), some (.ref a2), some (.int a3)], [] => nL_law_1573 N cs a0 a1 a2 a3 h
  | _, _ => none) (ra_k1 1586 (fun L S h => match L, S with
  | [some (.float a0), some (.ref a1), some (.ref a2), some (.int a3)], [] => nL_law_1586 N cs a0 a1 a2 a3 h
  | _, _ => none) (ra_k1 1609 (fun L S h => match L, S with
  | [some (.float a0), some (.ref a1), some (.ref a2), some (.int a3)], [] => nL_law_1609 N cs a0 a1 a2 a3 h
  | _, _ => none) (ra_k1 1662 (fun L S h => match L, S with
  | [some (.float a0), some (.ref a1), some (.ref a2), some (.int a3)], [] => nL_law_1662 N cs a0 a1 a2 a3 h
  | _, _ => none) (ra_k1 1685 (fun L S h => match L, S with
  | [some (.float a0), some (.ref a1), some (.ref a2), some (.int a3)], [] => nL_law_1685 N cs a0 a1 a2 a3 h
  | _, _ => none) (ra_k1 1698 (fun L S h => match L, S with
  | [some (.float a0), some (.ref a1), some (.ref a2), some (.int a3)], [] => nL_law_1698 N cs a0 a1 a2 a3 h
  | _, _ => none) (ra_k1 1721 (fun L S h => match L, S with
  | [some (.float a0), some (.ref a1), some (.ref a2), some (.int a3)], [] => nL_law_1721 N cs a0 a1 a2 a3 h
  | _, _ => none) (ra_k1 1764 (fun L S h => match L, S with
  | [some (.float a0), some (.ref a1), some (.ref a2), some (.int a3)], [] => nL_law_1764 N cs a0 a1 a2 a3 h
  | _, _ => none) (ra_k1 1797 (fun L S h => match L, S with
  | [some (.float a0), some (.ref a1), some (.ref a2), some (.int a3)], [] => nL_law_1797 N cs a0 a1 a2 a3 h
  | _, _ => none) (ra_k1 1820 (fun L S h => match L, S with
  | [some (.float a0), some (.ref a1), some (.ref a2), some (.int a3)], [] => nL_law_1820 N cs a0 a1 a2 a3 h
  | _, _ => none) (ra_k1 1853 (fun L S h => match L, S with
  | [some (.float a0), some (.ref a1), some (.ref a2), some (.int a3)], [] => nL_law_1853 N cs a0 a1 a2 a3 h
  | _, _ => none) (ra_k1 1876 (fun L S h => match L, S with
  | [some (.float a0), some (.ref a1), some (.ref a2), some (.int a3)], [] => nL_law_1876 N cs a0 a1 a2 a3 h
  | _, _ => none) (ra_k1 1899 (fun L S h => match L, S with
  | [some (.float a0), some (.ref a1), some (.ref a2), some (.int a3)], [] => nL_law_1899 N cs a0 a1 a2 a3 h
  | _, _ => none) (ra_k1 1922 (fun L S h => match L, S with
  | [some (.float a0), some (.ref a1), some (.ref a2), some (.int a3)], [] => nL_law_1922 N cs a0 a1 a2 a3 h
  | _, _ => none) (ra_k1 1935 (fun L S h => match L, S with
  | [some (.float a0), some (.ref a1), some (.ref a2), some (.int a3)], [] => nL_law_1935 N cs a0 a1 a2 a3 h
  | _, _ => none) ra_k0))))))))))))))))))))))))))))))))))))))))))))))))))))
theorem kL_law_18_ok (N : Nat) (cs : UInt32 → Nat → Nat → Int32 → ra_H → Option (Int32 × ra_H)) (hcs : ∀ a0 a1 a2 a3 h r, cs a0 a1 a2 a3 h = some r → ra_Ru 95 mL_law 18 [some (.float a0), some (.ref a1), some (.ref a2), some (.int a3)] [] h (ra_oI r)) : ra_kok 95 mL_law ra_oI (kL_law_18 N cs) := (ra_k1_ok (by
  intro L S h a e
  split at e
  · exact ra_Ru.weak (nL_law_252_ok N cs hcs _ _ _ _ _ _ e) ⟨rfl, ⟨rfl, ⟨rfl, ⟨rfl, trivial⟩⟩⟩⟩
  · cases e) (ra_k1_ok (by
  intro L S h a e
  split at e
  · exact ra_Ru.weak (nL_law_315_ok N cs hcs _ _ _ _ _ _ e) ⟨rfl, ⟨rfl, ⟨rfl, ⟨rfl, trivial⟩⟩⟩⟩
  · cases e) (ra_k1_ok (by
  intro L S h a e
  split at e
  · exact ra_Ru.weak (nL_law_358_ok N cs hcs _ _ _ _ _ _ e) ⟨rfl, ⟨rfl, ⟨rfl, ⟨rfl, trivial⟩⟩⟩⟩
  · cases e) (ra_k1_ok (by
  intro L S h a e
  split at e
  · exact ra_Ru.weak (nL_law_401_ok N cs hcs _ _ _ _ _ _ e) ⟨rfl, ⟨rfl, ⟨rfl, ⟨rfl, trivial⟩⟩⟩⟩
  · cases e) (ra_k1_ok (by
  intro L S h a e
  split at e
  · exact ra_Ru.weak (nL_law_434_ok N cs hcs _ _ _ _ _ _ e) ⟨rfl, ⟨rfl, ⟨rfl, ⟨rfl, trivial⟩⟩⟩⟩
  · cases e) (ra_k1_ok (by
  intro L S h a e
  split at e
  · exact ra_Ru.weak (nL_law_467_ok N cs hcs _ _ _ _ _ _ e) ⟨rfl, ⟨rfl, ⟨rfl, ⟨rfl, trivial⟩⟩⟩⟩
  · cases e) (ra_k1_ok (by
  intro L S h a e
  split at e
  · exact ra_Ru.weak (nL_law_520_ok N cs hcs _ _ _ _ _ _ e) ⟨rfl, ⟨rfl, ⟨rfl, ⟨rfl, trivial⟩⟩⟩⟩
  · cases e) (ra_k1_ok (by
  intro L S h a e
  split at e
  · exact ra_Ru.weak (nL_law_583_ok N cs hcs _ _ _ _ _ _ e) ⟨rfl, ⟨rfl, ⟨rfl, ⟨rfl, trivial⟩⟩⟩⟩
  · cases e) (ra_k1_ok (by
  intro L S h a e
  split at e
  · exact ra_Ru.weak (nL_law_606_ok N cs hcs _ _ _ _ _ _ e) ⟨rfl, ⟨rfl, ⟨rfl, ⟨rfl, trivial⟩⟩⟩⟩
  · cases e) (ra_k1_ok (by
  intro L S h a e
  split at e
  · exact ra_Ru.weak (nL_law_619_ok N cs hcs _ _ _ _ _ _ e) ⟨rfl, ⟨rfl, ⟨rfl, ⟨rfl, trivial⟩⟩⟩⟩
  · cases e) (ra_k1_ok (by
  intro L S h a e
  split at e
  · exact ra_Ru.weak (nL_law_632_ok N cs hcs _ _ _ _ _ _ e) ⟨rfl, ⟨rfl, ⟨rfl, ⟨rfl, trivial⟩⟩⟩⟩
  · cases e) (ra_k1_ok (by
  intro L S h a e
  split at e
  · exact ra_Ru.weak (nL_law_645_ok N cs hcs _ _ _ _ _ _ e) ⟨rfl, ⟨rfl, ⟨rfl, ⟨rfl, trivial⟩⟩⟩⟩
  · cases e) (ra_k1_ok (by
  intro L S h a e
  split at e
  · exact ra_Ru.weak (nL_law_658_ok N cs hcs _ _ _ _ _ _ e) ⟨rfl, ⟨rfl, ⟨rfl, ⟨rfl, trivial⟩⟩⟩⟩
  · cases e) (ra_k1_ok (by
  intro L S h a e
  split at e
  · exact ra_Ru.weak (nL_law_701_ok N cs hcs _ _ _ _ _ _ e) ⟨rfl, ⟨rfl, ⟨rfl, ⟨rfl, trivial⟩⟩⟩⟩
  · cases e) (ra_k1_ok (by
  intro L S h a e
  split at e
  · exact ra_Ru.weak (nL_law_744_ok N cs hcs _ _ _ _ _ _ e) ⟨rfl, ⟨rfl, ⟨rfl, ⟨rfl, trivial⟩⟩⟩⟩
  · cases e) (ra_k1_ok (by
  intro L S h a e
  split at e
  · exact ra_Ru.weak (nL_law_767_ok N cs hcs _ _ _ _ _ _ e) ⟨rfl, ⟨rfl, ⟨rfl, ⟨rfl, trivial⟩⟩⟩⟩
  · cases e) (ra_k1_ok (by
  intro L S h a e
  split at e
  · exact ra_Ru.weak (nL_law_810_ok N cs hcs _ _ _ _ _ _ e) ⟨rfl, ⟨rfl, ⟨rfl, ⟨rfl, trivial⟩⟩⟩⟩
  · cases e) (ra_k1_ok (by
  intro L S h a e
  split at e
  · exact ra_Ru.weak (nL_law_833_ok N cs hcs _ _ _ _ _ _ e) ⟨rfl, ⟨rfl, ⟨rfl, ⟨rfl, trivial⟩⟩⟩⟩
  · cases e) (ra_k1_ok (by
  intro L S h a e
  split at e
  · exact ra_Ru.weak (nL_law_876_ok N cs hcs _ _ _ _ _ _ e) ⟨rfl, ⟨rfl, ⟨rfl, ⟨rfl, trivial⟩⟩⟩⟩
  · cases e) (ra_k1_ok (by
  intro L S h a e
  split at e
  · exact ra_Ru.weak (nL_law_909_ok N cs hcs _ _ _ _ _ _ e) ⟨rfl, ⟨rfl, ⟨rfl, ⟨rfl, trivial⟩⟩⟩⟩
  · cases e) (ra_k1_ok (by
  intro L S h a e
  split at e
  · exact ra_Ru.weak (nL_law_962_ok N cs hcs _ _ _ _ _ _ e) ⟨rfl, ⟨rfl, ⟨rfl, ⟨rfl, trivial⟩⟩⟩⟩
  · cases e) (ra_k1_ok (by
  intro L S h a e
  split at e
  · exact ra_Ru.weak (nL_law_1015_ok N cs hcs _ _ _ _ _ _ e) ⟨rfl, ⟨rfl, ⟨rfl, ⟨rfl, trivial⟩⟩⟩⟩
  · cases e) (ra_k1_ok (by
  intro L S h a e
  split at e
  · exact ra_Ru.weak (nL_law_1078_ok N cs hcs _ _ _ _ _ _ e) ⟨rfl, ⟨rfl, ⟨rfl, ⟨rfl, trivial⟩⟩⟩⟩
  · cases e) (ra_k1_ok (by
  intro L S h a e
  split at e
  · exact ra_Ru.weak (nL_law_1111_ok N cs hcs _ _ _ _ _ _ e) ⟨rfl, ⟨rfl, ⟨rfl, ⟨rfl, trivial⟩⟩⟩⟩
  · cases e) (ra_k1_ok (by
  intro L S h a e
  split at e
  · exact ra_Ru.weak (nL_law_1144_ok N cs hcs _ _ _ _ _ _ e) ⟨rfl, ⟨rfl, ⟨rfl, ⟨rfl, trivial⟩⟩⟩⟩
  · cases e) (ra_k1_ok (by
  intro L S h a e
  split at e
  · exact ra_Ru.weak (nL_law_1187_ok N cs hcs _ _ _ _ _ _ e) ⟨rfl, ⟨rfl, ⟨rfl, ⟨rfl, trivial⟩⟩⟩⟩
  · cases e) (ra_k1_ok (by
  intro L S h a e
  split at e
  · exact ra_Ru.weak (nL_law_1210_ok N cs hcs _ _ _ _ _ _ e) ⟨rfl, ⟨rfl, ⟨rfl, ⟨rfl, trivial⟩⟩⟩⟩
  · cases e) (ra_k1_ok (by
  intro L S h a e
  split at e
  · exact ra_Ru.weak (nL_law_1253_ok N cs hcs _ _ _ _ _ _ e) ⟨rfl, ⟨rfl, ⟨rfl, ⟨rfl, trivial⟩⟩⟩⟩
  · cases e) (ra_k1_ok (by
  intro L S h a e
  split at e
  · exact ra_Ru.weak (nL_law_1276_ok N cs hcs _ _ _ _ _ _ e) ⟨rfl, ⟨rfl, ⟨rfl, ⟨rfl, trivial⟩⟩⟩⟩
  · cases e) (ra_k1_ok (by
  intro L S h a e
  split at e
  · exact ra_Ru.weak (nL_law_1309_ok N cs hcs _ _ _ _ _ _ e) ⟨rfl, ⟨rfl, ⟨rfl, ⟨rfl, trivial⟩⟩⟩⟩
  · cases e) (ra_k1_ok (by
  intro L S h a e
  split at e
  · exact ra_Ru.weak (nL_law_1342_ok N cs hcs _ _ _ _ _ _ e) ⟨rfl, ⟨rfl, ⟨rfl, ⟨rfl, trivial⟩⟩⟩⟩
  · cases e) (ra_k1_ok (by
  intro L S h a e
  split at e
  · exact ra_Ru.weak (nL_law_1375_ok N cs hcs _ _ _ _ _ _ e) ⟨rfl, ⟨rfl, ⟨rfl, ⟨rfl, trivial⟩⟩⟩⟩
  · cases e) (ra_k1_ok (by
  intro L S h a e
  split at e
  · exact ra_Ru.weak (nL_law_1398_ok N cs hcs _ _ _ _ _ _ e) ⟨rfl, ⟨rfl, ⟨rfl, ⟨rfl, trivial⟩⟩⟩⟩
  · cases e) (ra_k1_ok (by
  intro L S h a e
  split at e
  · exact ra_Ru.weak (nL_law_1431_ok N cs hcs _ _ _ _ _ _ e) ⟨rfl, ⟨rfl, ⟨rfl, ⟨rfl, trivial⟩⟩⟩⟩
  · cases e) (ra_k1_ok (by
  intro L S h a e
  split at e
  · exact ra_Ru.weak (nL_law_1474_ok N cs hcs _ _ _ _ _ _ e) ⟨rfl, ⟨rfl, ⟨rfl, ⟨rfl, trivial⟩⟩⟩⟩
  · cases e) (ra_k1_ok (by
  intro L S h a e
  split at e
  · exact ra_Ru.weak (nL_law_1517_ok N cs hcs _ _ _ _ _ _ e) ⟨rfl, ⟨rfl, ⟨rfl, ⟨rfl, trivial⟩⟩⟩⟩
  · cases e) (ra_k1_ok (by
  intro L S h a e
  split at e
  · exact ra_Ru.weak (nL_law_1550_ok N cs hcs _ _ _ _ _ _ e) ⟨rfl, ⟨rfl, ⟨rfl, ⟨rfl, trivial⟩⟩⟩⟩
  · cases e) (ra_k1_ok (by
  intro L S h a e
  split at e
  · exact ra_Ru.weak (nL_law_1573_ok N cs hcs _ _ _ _ _ _ e) ⟨rfl, ⟨rfl, ⟨rfl, ⟨rfl, trivial⟩⟩⟩⟩
  · cases e) (ra_k1_ok (by
  intro L S h a e
  split at e
  · exact ra_Ru.weak (nL_law_1586_ok N cs hcs _ _ _ _ _ _ e) ⟨rfl, ⟨rfl, ⟨rfl, ⟨rfl, trivial⟩⟩⟩⟩
  · cases e) (ra_k1_ok (by
  intro L S h a e
  split at e
  · exact ra_Ru.weak (nL_law_1609_ok N cs hcs _ _ _ _ _ _ e) ⟨rfl, ⟨rfl, ⟨rfl, ⟨rfl, trivial⟩⟩⟩⟩
  · cases e) (ra_k1_ok (by
  intro L S h a e
  split at e
  · exact ra_Ru.weak (nL_law_1662_ok N cs hcs _ _ _ _ _ _ e) ⟨rfl, ⟨rfl, ⟨rfl, ⟨rfl, trivial⟩⟩⟩⟩
  · cases e) (ra_k1_ok (by
  intro L S h a e
  split at e
  · exact ra_Ru.weak (nL_law_1685_ok N cs hcs _ _ _ _ _ _ e) ⟨rfl, ⟨rfl, ⟨rfl, ⟨rfl, trivial⟩⟩⟩⟩
  · cases e) (ra_k1_ok (by
  intro L S h a e
  split at e
  · exact ra_Ru.weak (nL_law_1698_ok N cs hcs _ _ _ _ _ _ e) ⟨rfl, ⟨rfl, ⟨rfl, ⟨rfl, trivial⟩⟩⟩⟩
  · cases e) (ra_k1_ok (by
  intro L S h a e
  split at e
  · exact ra_Ru.weak (nL_law_1721_ok N cs hcs _ _ _ _ _ _ e) ⟨rfl, ⟨rfl, ⟨rfl, ⟨rfl, trivial⟩⟩⟩⟩
  · cases e) (ra_k1_ok (by
  intro L S h a e
  split at e
  · exact ra_Ru.weak (nL_law_1764_ok N cs hcs _ _ _ _ _ _ e) ⟨rfl, ⟨rfl, ⟨rfl, ⟨rfl, trivial⟩⟩⟩⟩
  · cases e) (ra_k1_ok (by
  intro L S h a e
  split at e
  · exact ra_Ru.weak (nL_law_1797_ok N cs hcs _ _ _ _ _ _ e) ⟨rfl, ⟨rfl, ⟨rfl, ⟨rfl, trivial⟩⟩⟩⟩
  · cases e) (ra_k1_ok (by
  intro L S h a e
  split at e
  · exact ra_Ru.weak (nL_law_1820_ok N cs hcs _ _ _ _ _ _ e) ⟨rfl, ⟨rfl, ⟨rfl, ⟨rfl, trivial⟩⟩⟩⟩
  · cases e) (ra_k1_ok (by
  intro L S h a e
  split at e
  · exact ra_Ru.weak (nL_law_1853_ok N cs hcs _ _ _ _ _ _ e) ⟨rfl, ⟨rfl, ⟨rfl, ⟨rfl, trivial⟩⟩⟩⟩
  · cases e) (ra_k1_ok (by
  intro L S h a e
  split at e
  · exact ra_Ru.weak (nL_law_1876_ok N cs hcs _ _ _ _ _ _ e) ⟨rfl, ⟨rfl, ⟨rfl, ⟨rfl, trivial⟩⟩⟩⟩
  · cases e) (ra_k1_ok (by
  intro L S h a e
  split at e
  · exact ra_Ru.weak (nL_law_1899_ok N cs hcs _ _ _ _ _ _ e) ⟨rfl, ⟨rfl, ⟨rfl, ⟨rfl, trivial⟩⟩⟩⟩
  · cases e) (ra_k1_ok (by
  intro L S h a e
  split at e
  · exact ra_Ru.weak (nL_law_1922_ok N cs hcs _ _ _ _ _ _ e) ⟨rfl, ⟨rfl, ⟨rfl, ⟨rfl, trivial⟩⟩⟩⟩
  · cases e) (ra_k1_ok (by
  intro L S h a e
  split at e
  · exact ra_Ru.weak (nL_law_1935_ok N cs hcs _ _ _ _ _ _ e) ⟨rfl, ⟨rfl, ⟨rfl, ⟨rfl, trivial⟩⟩⟩⟩
  · cases e) ra_k0_ok))))))))))))))))))))))))))))))))))))))))))))))))))))
set_option maxRecDepth 100000 in
theorem nL_law_18_ok (N : Nat) : ∀ n a0 a1 a2 a3 h r, nL_law_18 N n a0 a1 a2 a3 h = some r → ra_Ru 95 mL_law 18 [some (.float a0), some (.ref a1), some (.ref a2), some (.int a3)] [] h (ra_oI r) := by
  intro n
  induction n with
  | zero => intro a0 a1 a2 a3 h r e; cases e
  | succ n ih =>
    intro a0 a1 a2 a3 h r e
    exact ra_sound (by omega) rfl ra_rI_ok (kL_law_18_ok N (nL_law_18 N n) ih) (fun m av h h1 e => (tVL_law_ok N) m av h h1 e) (fun m av h x h1 e => (tIL_law_ok N) m av h (x, h1) e) (fun m av h x h1 e => (ra_c0_ok (ro := ra_oJ)) m av h (x, h1) e) (fun m av h x h1 e => (ra_c0_ok (ro := ra_oR)) m av h (x, h1) e) (fun m av h x h1 e => (ra_c0_ok (ro := ra_oN)) m av h (x, h1) e) (fun m av h x h1 e => (ra_c0_ok (ro := ra_oF)) m av h (x, h1) e) 15 lL_law_18 _ _ _ _ lL_law_18_ck (show ra_run ra_rI (kL_law_18 N (nL_law_18 N n)) (tVL_law N) (tIL_law N) ra_c0 ra_c0 ra_c0 ra_c0 15 lL_law_18 [some (.float a0), some (.ref a1), some (.ref a2), some (.int a3)] [] h = some r from e) _ _ rfl
def lL_law_0 : List ra_I := [(0, .new 7, 3, 11, 13, 0, 0, 0, []),
  (3, .dup, 1, 0, 0, 0, 0, 0, []),
  (4, .invokespecial 9, 3, 1, 1, 0, 0, 0, []),
  (7, .astore_n 1, 1, 1, 0, 0, 0, 0, []),
  (8, .new 10, 3, 12, 58, 0, 0, 0, []),
  (11, .dup, 1, 0, 0, 0, 0, 0, []),
  (12, .invokespecial 12, 3, 207, 1, 0, 0, 0, []),
  (15, .astore_n 2, 1, 2, 0, 0, 0, 0, []),
  (16, .iconst (0), 1, 0, 0, 0, (0), 0, []),
  (17, .istore_n 3, 1, 3, 0, 0, 0, 0, [])]
set_option maxRecDepth 100000 in
theorem lL_law_0_ck : lL_law_0.all (ra_ck mL_law 13) = true := by decide +kernel
def nL_law_0 (N : Nat) (a0 : UInt32) (h : ra_H) : Option (Int32 × ra_H) :=
  let h1 := ra_mk h (.inr (11, ra_df 11)) 13
  (fX11_init N h.2.1 h1).bind fun h2 =>
  let h3 := ra_mk h2 (.inr (12, ra_df 12)) 58
  (fX12_init N h2.2.1 h3).bind fun h4 =>
  nL_law_18 N N a0 h.2.1 h2.2.1 ((0 : Int32)) h4
def kL_law_0 (N : Nat) : Nat → List (Option Value) → List Value → ra_H → Option (Int32 × ra_H) := (ra_k1 18 (fun L S h => match L, S with
  | [some (.float a0), some (.ref a1), some (.ref a2), some (.int a3)], [] => nL_law_18 N N a0 a1 a2 a3 h
  | _, _ => none) ra_k0)
theorem kL_law_0_ok (N : Nat) : ra_kok 95 mL_law ra_oI (kL_law_0 N) := (ra_k1_ok (by
  intro L S h a e
  split at e
  · exact ra_Ru.weak (nL_law_18_ok N N _ _ _ _ _ _ e) ⟨rfl, ⟨rfl, ⟨rfl, ⟨rfl, trivial⟩⟩⟩⟩
  · cases e) ra_k0_ok)
set_option maxRecDepth 100000 in
theorem nL_law_0_ok (N : Nat) (a0 : UInt32) (h : ra_H) (r : (Int32 × ra_H)) (e : nL_law_0 N a0 h = some r) : ra_Ru 95 mL_law 0 [some (.float a0), none, none, none] [] h (ra_oI r) :=
  ra_sound (by omega) rfl ra_rI_ok (kL_law_0_ok N) (fun m av h h1 e => (tVL_law_ok N) m av h h1 e) (fun m av h x h1 e => (tIL_law_ok N) m av h (x, h1) e) (fun m av h x h1 e => (ra_c0_ok (ro := ra_oJ)) m av h (x, h1) e) (fun m av h x h1 e => (ra_c0_ok (ro := ra_oR)) m av h (x, h1) e) (fun m av h x h1 e => (ra_c0_ok (ro := ra_oN)) m av h (x, h1) e) (fun m av h x h1 e => (ra_c0_ok (ro := ra_oF)) m av h (x, h1) e) 11 lL_law_0 _ _ _ _ lL_law_0_ck (show ra_run ra_rI (kL_law_0 N) (tVL_law N) (tIL_law N) ra_c0 ra_c0 ra_c0 ra_c0 11 lL_law_0 [some (.float a0), none, none, none] [] h = some r from e) _ _ rfl
