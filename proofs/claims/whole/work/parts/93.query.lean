/-! queries, from REL to REL (made by gen/gq.py) -/
section
variable {d c : Nat} {g : Gph} {s : Mem}
theorem L_smell {K : Int32 → Int32 → Mem → Prop} (h : REL c g s) {x y : Int32} (hK : ∀ v s', REL c g s' → K v v s') :
    wI (wp (d + 50)) m_X_smell [.ref 0, .int x, .int y] s (fun v s1 => wI (wp (d + 50)) m_M_smell [.ref 57, .int x, .int y] s1 (fun v' s2 => K v v' s2)) := by
  obtain ⟨W, P, Q, lv, Ll, w, rn, dl, hr, o, hq, hb⟩ := REL_q h
  exact f_smell hq fun v s' hf hq' => hK v s' (hb s' hf hq')
theorem L_breath {K : Int32 → Int32 → Mem → Prop} (h : REL c g s) {x : Int32} (hK : ∀ v s', REL c g s' → K v v s') :
    wI (wp (d + 50)) m_X_breath [.ref 0, .int x] s (fun v s1 => wI (wp (d + 50)) m_M_breath [.ref 57, .int x] s1 (fun v' s2 => K v v' s2)) := by
  obtain ⟨W, P, Q, lv, Ll, w, rn, dl, hr, o, hq, hb⟩ := REL_q h
  exact f_breath hq fun v s' hf hq' => hK v s' (hb s' hf hq')
theorem L_strongest {K : Int32 → Int32 → Mem → Prop} (h : REL c g s) {x : Int32} (hK : ∀ v s', REL c g s' → K v v s') :
    wI (wp (d + 50)) m_X_strongest [.ref 0, .int x] s (fun v s1 => wI (wp (d + 50)) m_M_strongest [.ref 57, .int x] s1 (fun v' s2 => K v v' s2)) := by
  obtain ⟨W, P, Q, lv, Ll, w, rn, dl, hr, o, hq, hb⟩ := REL_q h
  exact f_strongest hq fun v s' hf hq' => hK v s' (hb s' hf hq')
theorem L_silent {K : Int32 → Int32 → Mem → Prop} (h : REL c g s) (hK : ∀ v s', REL c g s' → K v v s') :
    wI (wp (d + 50)) m_X_silent [.ref 0] s (fun v s1 => wI (wp (d + 50)) m_M_silent [.ref 57] s1 (fun v' s2 => K v v' s2)) := by
  obtain ⟨W, P, Q, lv, Ll, w, rn, dl, hr, o, hq, hb⟩ := REL_q h
  exact f_silent hq fun v s' hf hq' => hK v s' (hb s' hf hq')
theorem L_where {K : Int32 → Int32 → Mem → Prop} (h : REL c g s) {x : Int32} (hK : ∀ v s', REL c g s' → K v v s') :
    wI (wp (d + 50)) m_X_where [.ref 0, .int x] s (fun v s1 => wI (wp (d + 50)) m_M_where [.ref 57, .int x] s1 (fun v' s2 => K v v' s2)) := by
  obtain ⟨W, P, Q, lv, Ll, w, rn, dl, hr, o, hq, hb⟩ := REL_q h
  obtain ⟨t, sd, bt, ht, hsd, hC, hM, h0⟩ := rl_tr h
  exact f_where hq ht hsd hC hM fun v s' hf hq' => hK v s' (hb s' hf hq')
theorem L_street {K : Int32 → Int32 → Mem → Prop} (h : REL c g s) {x : Int32} (hK : ∀ v s', REL c g s' → K v v s') :
    wI (wp (d + 50)) m_X_street [.ref 0, .int x] s (fun v s1 => wI (wp (d + 50)) m_M_street [.ref 57, .int x] s1 (fun v' s2 => K v v' s2)) := by
  obtain ⟨W, P, Q, lv, Ll, w, rn, dl, hr, o, hq, hb⟩ := REL_q h
  exact f_street hq fun v s' hf hq' => hK v s' (hb s' hf hq')
theorem L_far {K : Int32 → Int32 → Mem → Prop} (h : REL c g s) {x y : Int32} (hK : ∀ v s', REL c g s' → K v v s') :
    wI (wp (d + 50)) m_X_far [.ref 0, .int x, .int y] s (fun v s1 => wI (wp (d + 50)) m_M_far [.ref 57, .int x, .int y] s1 (fun v' s2 => K v v' s2)) := by
  obtain ⟨W, P, Q, lv, Ll, w, rn, dl, hr, o, hq, hb⟩ := REL_q h
  exact f_far hq fun v s' hf hq' => hK v s' (hb s' hf hq')
theorem L_unlike {K : Int32 → Int32 → Mem → Prop} (h : REL c g s) {x y : Int32} (hK : ∀ v s', REL c g s' → K v v s') :
    wI (wp (d + 50)) m_X_unlike [.ref 0, .int x, .int y] s (fun v s1 => wI (wp (d + 50)) m_M_unlike [.ref 57, .int x, .int y] s1 (fun v' s2 => K v v' s2)) := by
  obtain ⟨W, P, Q, lv, Ll, w, rn, dl, hr, o, hq, hb⟩ := REL_q h
  exact f_unlike hq fun v s' hf hq' => hK v s' (hb s' hf hq')
theorem L_follow {K : Int32 → Int32 → Mem → Prop} (h : REL c g s) {x y z : Int32} (hK : ∀ v s', REL c g s' → K v v s') :
    wI (wp (d + 50)) m_X_follow [.ref 0, .int x, .int y, .int z] s (fun v s1 => wI (wp (d + 50)) m_M_follow [.ref 57, .int x, .int y, .int z] s1 (fun v' s2 => K v v' s2)) := by
  obtain ⟨W, P, Q, lv, Ll, w, rn, dl, hr, o, hq, hb⟩ := REL_q h
  exact f_follow hq fun v s' hf hq' => hK v s' (hb s' hf hq')
theorem L_led {K : Int32 → Int32 → Mem → Prop} (h : REL c g s) {x : Int32} (hK : ∀ v s', REL c g s' → K v v s') :
    wI (wp (d + 50)) m_X_led [.ref 0, .int x] s (fun v s1 => wI (wp (d + 50)) m_M_led [.ref 57, .int x] s1 (fun v' s2 => K v v' s2)) := by
  obtain ⟨W, P, Q, lv, Ll, w, rn, dl, hr, o, hq, hb⟩ := REL_q h
  exact f_led hq fun v s' hf hq' => hK v s' (hb s' hf hq')
theorem L_forged {K : Int32 → Int32 → Mem → Prop} (h : REL c g s) {x y : Int32} (hK : ∀ v s', REL c g s' → K v v s') :
    wI (wp (d + 50)) m_X_forged [.ref 0, .int x, .int y] s (fun v s1 => wI (wp (d + 50)) m_M_forged [.ref 57, .int x, .int y] s1 (fun v' s2 => K v v' s2)) := by
  obtain ⟨W, P, Q, lv, Ll, w, rn, dl, hr, o, hq, hb⟩ := REL_q h
  exact f_forged hq fun v s' hf hq' => hK v s' (hb s' hf hq')
theorem L_thief {K : Int32 → Int32 → Mem → Prop} (h : REL c g s) {x : Int32} (hK : ∀ v s', REL c g s' → K v v s') :
    wI (wp (d + 50)) m_X_thief [.ref 0, .int x] s (fun v s1 => wI (wp (d + 50)) m_M_thief [.ref 57, .int x] s1 (fun v' s2 => K v v' s2)) := by
  obtain ⟨W, P, Q, lv, Ll, w, rn, dl, hr, o, hq, hb⟩ := REL_q h
  obtain ⟨nt, hO, hNC, hNM⟩ := rl_nt h
  exact f_thief hq hO hNC hNM fun v s' hf hq' => hK v s' (hb s' hf hq')
theorem L_found {K : Int32 → Int32 → Mem → Prop} (h : REL c g s) {x : Int32} (hK : ∀ v s', REL c g s' → K v v s') :
    wI (wp (d + 50)) m_X_found [.ref 0, .int x] s (fun v s1 => wI (wp (d + 50)) m_M_found [.ref 57, .int x] s1 (fun v' s2 => K v v' s2)) := by
  obtain ⟨W, P, Q, lv, Ll, w, rn, dl, hr, o, hq, hb⟩ := REL_q h
  obtain ⟨nt, hO, hNC, hNM⟩ := rl_nt h
  exact f_found hq hO hNC hNM fun v s' hf hq' => hK v s' (hb s' hf hq')
theorem L_door {K : Int32 → Int32 → Mem → Prop} (h : REL c g s) {x : Int32} (hK : ∀ v s', REL c g s' → K v v s') :
    wI (wp (d + 50)) m_X_door [.ref 0, .int x] s (fun v s1 => wI (wp (d + 50)) m_M_door [.ref 57, .int x] s1 (fun v' s2 => K v v' s2)) := by
  obtain ⟨W, P, Q, lv, Ll, w, rn, dl, hr, o, hq, hb⟩ := REL_q h
  exact f_door hq fun v s' hf hq' => hK v s' (hb s' hf hq')
theorem L_most {K : Int32 → Int32 → Mem → Prop} (h : REL c g s) {x : Int32} (hK : ∀ v s', REL c g s' → K v v s') :
    wI (wp (d + 50)) m_X_most [.ref 0, .int x] s (fun v s1 => wI (wp (d + 50)) m_M_most [.ref 57, .int x] s1 (fun v' s2 => K v v' s2)) := by
  obtain ⟨W, P, Q, lv, Ll, w, rn, dl, hr, o, hq, hb⟩ := REL_q h
  exact f_most hq fun v s' hf hq' => hK v s' (hb s' hf hq')
theorem L_sure {K : Int32 → Int32 → Mem → Prop} (h : REL c g s) {x y : Int32} (hK : ∀ v s', REL c g s' → K v v s') :
    wI (wp (d + 50)) m_X_sure [.ref 0, .int x, .int y] s (fun v s1 => wI (wp (d + 50)) m_M_sure [.ref 57, .int x, .int y] s1 (fun v' s2 => K v v' s2)) := by
  obtain ⟨W, P, Q, lv, Ll, w, rn, dl, hr, o, hq, hb⟩ := REL_q h
  obtain ⟨t, sd, bt, ht, hsd, hC, hM, h0⟩ := rl_tr h
  exact f_sure hq ht hsd hC hM fun v s' hf hq' => hK v s' (hb s' hf hq')
end
