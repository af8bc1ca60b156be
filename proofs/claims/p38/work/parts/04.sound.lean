section ZS
variable {p : Program} {l : Launch} {e : Env} {R : Room} {s : State} {m : MethodId} {args : Array Value} {below : List Frame} {meth : Method} {c : Code}
variable {cc : ByteArray} {nL : Nat} {D : va_G} {cA : Nat → ClassId} {A : Nat → Prop} {H0 : Heap} {ad0 : Nat → Nat} {n0 : Nat} {Q : State → Prop}
/-- how the names are laid out: the old ones as they were, the script's, how many there are -/
def zAd (ad ad0 : Nat → Nat) (n0 : Nat) (R : Room) (κ : Nat × Nat) (μ : zM) : Prop := (∀ k, k < n0 → ad k = ad0 k) ∧ ad zS = ad0 zS ∧ μ.1 ≤ n0 + κ.1 ∧ (μ.2.1 zS).1 = 999 ∧ n0 + R.cells < zS
/-- the machine comes to a state with Q from every concrete state that the abstract one describes -/
def zG (p : Program) (l : Launch) (e : Env) (R : Room) (s : State) (m : MethodId) (args : Array Value) (below : List Frame) (meth : Method) (c : Code) (nL : Nat) (D : va_G) (cA : Nat → ClassId) (A : Nat → Prop) (H0 : Heap) (ad0 : Nat → Nat) (n0 : Nat) (Q : State → Prop) : zK := fun pc ll st κ μ =>
  ∀ (ad : Nat → Nat) (H : Heap) (locs : List Loc) (ls : Array Slot), zAd ad ad0 n0 R κ μ → n0 ≤ μ.1 → zwf ll st μ → (κ.1 ≤ R.cells ∧ κ.2 ≤ R.slots) → va_P D vwCl (zw cA ad μ) H → va_D A (zw cA ad μ) → va_S A H0 H locs → zlv ad nL ll ls →
    W p l e R s m args below meth c H locs κ.1 κ.2 Q (F0 m pc ls (st.map (zc ad)))
/-- the same where the exception q has been thrown over the frame -/
def zGX (p : Program) (l : Launch) (e : Env) (R : Room) (s : State) (m : MethodId) (args : Array Value) (below : List Frame) (meth : Method) (c : Code) (nL : Nat) (D : va_G) (cA : Nat → ClassId) (A : Nat → Prop) (H0 : Heap) (ad0 : Nat → Nat) (n0 : Nat) (Q : State → Prop) : Nat → zK := fun b pc ll st κ μ =>
  ∀ (ad : Nat → Nat) (H : Heap) (locs : List Loc) (ls : Array Slot), zAd ad ad0 n0 R κ μ → n0 ≤ μ.1 → zwf ll st μ → (κ.1 ≤ R.cells ∧ κ.2 ≤ R.slots) → va_P D vwCl (zw cA ad μ) H → va_D A (zw cA ad μ) → va_S A H0 H locs → zlv ad nL ll ls →
    ∀ (q : Addr) (ce : Cell), H[q]? = some ce → ce.vm = .none → s.vm.findClass (zEx b).1 = some ce.cls → vx_W p l e R s m args below meth c H locs κ.1 κ.2 Q (F0 m pc ls (st.map (zc ad))) q
/-- an instruction that changes the stack alone -/
theorem zs_stack {pc pc1 : Nat} {ll : zLc} {st st1 : List Value} {κ : Nat × Nat} {μ : zM} (k : zG p l e R s m args below meth c nL D cA A H0 ad0 n0 Q pc1 ll st1 κ μ)
    (hw : ∀ n, (∀ v ∈ st, zwV n v) → (∀ v ∈ st1, zwV n v))
    (hW : ∀ (ad : Nat → Nat) (H : Heap) (locs : List Loc) (ls : Array Slot), W p l e R s m args below meth c H locs κ.1 κ.2 Q (F0 m pc1 ls (st1.map (zc ad))) → W p l e R s m args below meth c H locs κ.1 κ.2 Q (F0 m pc ls (st.map (zc ad))))
    : zG p l e R s m args below meth c nL D cA A H0 ad0 n0 Q pc ll st κ μ :=
  fun ad H locs ls ha hn hwf hr hP hD hS hl => hW ad H locs ls (k ad H locs ls ha hn ⟨hw _ hwf.1, hwf.2⟩ hr hP hD hS hl)
/-- one that loads a local -/
theorem zs_load {pc pc1 i : Nat} {ll : zLc} {st : List Value} {κ : Nat × Nat} {μ : zM} {v : Value} (k : zG p l e R s m args below meth c nL D cA A H0 ad0 n0 Q pc1 ll (v :: st) κ μ) (hi : znth ll i = some v)
    (hW : ∀ (ad : Nat → Nat) (H : Heap) (locs : List Loc) (ls : Array Slot), ls[i]? = some (.val (zc ad v)) → W p l e R s m args below meth c H locs κ.1 κ.2 Q (F0 m pc1 ls (zc ad v :: st.map (zc ad))) → W p l e R s m args below meth c H locs κ.1 κ.2 Q (F0 m pc ls (st.map (zc ad)))) : zG p l e R s m args below meth c nL D cA A H0 ad0 n0 Q pc ll st κ μ :=
  fun ad H locs ls ha hn hwf hr hP hD hS hl => hW ad H locs ls (hl.2.2 i v hi) (k ad H locs ls ha hn ⟨fun w hw => (List.mem_cons.mp hw).elim (fun q => q ▸ hwf.2.1 i v hi) (hwf.1 w), hwf.2⟩ hr hP hD hS hl)
/-- one that stores one word -/
theorem zs_store {pc pc1 i : Nat} {ll l1 : zLc} {st : List Value} {κ : Nat × Nat} {μ : zM} {v : Value} (k : zG p l e R s m args below meth c nL D cA A H0 ad0 n0 Q pc1 l1 st κ μ) (hk : zkeeps ll i v l1)
    (hW : ∀ (ad : Nat → Nat) (H : Heap) (locs : List Loc) (ls : Array Slot), lv_has ls nL (zall ad ll) → (∀ ls' : Array Slot, lv_has ls' nL ((i, zc ad v) :: (zall ad ll).filter (fun q => !(q.1 == i) && !(q.1 + 1 == i && q.2.category == 2))) → W p l e R s m args below meth c H locs κ.1 κ.2 Q (F0 m pc1 ls' (st.map (zc ad)))) → W p l e R s m args below meth c H locs κ.1 κ.2 Q (F0 m pc ls (zc ad v :: st.map (zc ad))))
    : zG p l e R s m args below meth c nL D cA A H0 ad0 n0 Q pc ll (v :: st) κ μ :=
  fun ad H locs ls ha hn hwf hr hP hD hS hl => hW ad H locs ls (zlv_has hl) (fun ls' h' => k ad H locs ls' ha hn ⟨fun w hw => hwf.1 w (List.mem_cons_of_mem _ hw), zwf_sto (fun j w hw => (hk j w hw).imp_right (fun q => q.2.1)) (hwf.1 v List.mem_cons_self) hwf.2.1, hwf.2.2⟩ hr hP hD hS (zlv_sto hk h'))
/-- one that stores two -/
theorem zs_store2 {pc pc1 i : Nat} {ll l1 : zLc} {st : List Value} {κ : Nat × Nat} {μ : zM} {v : Value} (k : zG p l e R s m args below meth c nL D cA A H0 ad0 n0 Q pc1 l1 st κ μ) (hk : ∀ j w, znth l1 j = some w → (j = i ∧ w = v) ∨ (j ≠ i ∧ j ≠ i + 1 ∧ znth ll j = some w ∧ (j + 1 = i → w.category = 1)))
    (hW : ∀ (ad : Nat → Nat) (H : Heap) (locs : List Loc) (ls : Array Slot), lv_has ls nL (zall ad ll) → (∀ ls' : Array Slot, lv_has ls' nL ((i, zc ad v) :: (zall ad ll).filter (fun q => !(q.1 == i) && (!(q.1 == i + 1) && !(q.1 + 1 == i && q.2.category == 2)))) → W p l e R s m args below meth c H locs κ.1 κ.2 Q (F0 m pc1 ls' (st.map (zc ad)))) → W p l e R s m args below meth c H locs κ.1 κ.2 Q (F0 m pc ls (zc ad v :: st.map (zc ad))))
    : zG p l e R s m args below meth c nL D cA A H0 ad0 n0 Q pc ll (v :: st) κ μ :=
  fun ad H locs ls ha hn hwf hr hP hD hS hl => hW ad H locs ls (zlv_has hl) (fun ls' h' => k ad H locs ls' ha hn ⟨fun w hw => hwf.1 w (List.mem_cons_of_mem _ hw), zwf_sto (fun j w hw => (hk j w hw).imp_right (fun q => q.2.2.1)) (hwf.1 v List.mem_cons_self) hwf.2.1, hwf.2.2⟩ hr hP hD hS (zlv_sto2 hk h'))
/-- a memory with other contents at one name: the world's list -/
theorem zw_set {ad : Nat → Nat} {μ μ1 : zM} {r : Nat} {x : va_E} (hn : μ1.1 = μ.1) (hr : r < μ.1) (ho : ∀ k, k ≠ r → zcell cA ad μ1 k = zcell cA ad μ k) (hx : zcell cA ad μ1 r = x) : zw cA ad μ1 = (zw cA ad μ).set r (ad r, x) := by
  refine List.ext_getElem? fun i => ?_
  by_cases hi : i < μ.1
  · by_cases e : i = r
    · subst e
      rw [zw_get (by rw [hn]; exact hi), hx, List.getElem?_set_self (by simpa [zw] using hi)]
    · rw [zw_get (by rw [hn]; exact hi), ho i e, List.getElem?_set_ne (Ne.symm e), zw_get hi]
  · rw [List.getElem?_eq_none (by simp [zw, hn]; omega), List.getElem?_eq_none (by simp [zw]; omega)]
/-- one that writes a cell -/
theorem zs_write {pc pc1 r : Nat} {ll : zLc} {st st1 : List Value} {κ : Nat × Nat} {μ μ1 : zM} (k : zG p l e R s m args below meth c nL D cA A H0 ad0 n0 Q pc1 ll st1 κ μ1)
    (hr0 : Value.ref r ∈ st) (hk9 : (μ.2.1 r).1 ≠ 999) (hn1 : μ1.1 = μ.1) (hs1 : μ1.2.1 = μ.2.1) (ho : ∀ ad k, k ≠ r → zcell cA ad μ1 k = zcell cA ad μ k)
    (hw : ∀ n, (∀ v ∈ st, zwV n v) → (∀ v ∈ st1, zwV n v)) (hrf : (∀ v ∈ st, zwV μ.1 v) → (∀ r j b, r < μ.1 → μ.2.2.1 r j = some b → b < μ.1 ∨ b = zS) → ∀ r j b, r < μ.1 → μ1.2.2.1 r j = some b → b < μ.1 ∨ b = zS)
    (hW : ∀ (ad : Nat → Nat) (H : Heap) (locs : List Loc) (ls : Array Slot), r < μ.1 → va_P D vwCl (zw cA ad μ) H → va_D A (zw cA ad μ) → va_S A H0 H locs → (∀ (H1 : Heap) (locs1 : List Loc), va_P D vwCl ((zw cA ad μ).set r (ad r, zcell cA ad μ1 r)) H1 → va_D A ((zw cA ad μ).set r (ad r, zcell cA ad μ1 r)) → va_S A H0 H1 locs1 → W p l e R s m args below meth c H1 locs1 κ.1 κ.2 Q (F0 m pc1 ls (st1.map (zc ad)))) → W p l e R s m args below meth c H locs κ.1 κ.2 Q (F0 m pc ls (st.map (zc ad))))
    : zG p l e R s m args below meth c nL D cA A H0 ad0 n0 Q pc ll st κ μ := by
  intro ad H locs ls ha hn hwf hr hP hD hS hl
  have hrn : r < μ.1 := (hwf.1 _ hr0 : r < μ.1 ∨ r = zS).resolve_right fun q => hk9 (by rw [q]; exact ha.2.2.2.1)
  refine hW ad H locs ls hrn hP hD hS (fun H1 locs1 hP1 hD1 hS1 => ?_)
  rw [← zw_set hn1 hrn (ho ad) rfl] at hP1 hD1
  refine k ad H1 locs1 ls ⟨ha.1, ha.2.1, by rw [hn1]; exact ha.2.2.1, by rw [hs1]; exact ha.2.2.2.1, ha.2.2.2.2⟩ (by rw [hn1]; exact hn) ⟨?_, ?_, ?_⟩ hr hP1 hD1 hS1 hl
  · rw [hn1]; exact hw _ hwf.1
  · rw [hn1]; exact hwf.2.1
  · rw [hn1]; exact hrf hwf.1 hwf.2.2
/-- one that reads a cell: an integer, a long -/
theorem zs_read {pc pc1 r : Nat} {ll : zLc} {st st1 : List Value} {κ : Nat × Nat} {μ : zM} (k : zG p l e R s m args below meth c nL D cA A H0 ad0 n0 Q pc1 ll st1 κ μ) (hr0 : Value.ref r ∈ st) (hk9 : (μ.2.1 r).1 ≠ 999)
    (hw : r < μ.1 → (∀ v ∈ st, zwV μ.1 v) → (∀ r j b, r < μ.1 → μ.2.2.1 r j = some b → b < μ.1 ∨ b = zS) → (∀ v ∈ st1, zwV μ.1 v))
    (hW : ∀ (ad : Nat → Nat) (H : Heap) (locs : List Loc) (ls : Array Slot), r < μ.1 → va_P D vwCl (zw cA ad μ) H → W p l e R s m args below meth c H locs κ.1 κ.2 Q (F0 m pc1 ls (st1.map (zc ad))) → W p l e R s m args below meth c H locs κ.1 κ.2 Q (F0 m pc ls (st.map (zc ad))))
    : zG p l e R s m args below meth c nL D cA A H0 ad0 n0 Q pc ll st κ μ :=
  fun ad H locs ls ha hn hwf hr hP hD hS hl => have hrn : r < μ.1 := (hwf.1 _ hr0 : r < μ.1 ∨ r = zS).resolve_right fun q => hk9 (by rw [q]; exact ha.2.2.2.1)
  hW ad H locs ls hrn hP (k ad H locs ls ha hn ⟨hw hrn hwf.1 hwf.2.2, hwf.2⟩ hr hP hD hS hl)
end ZS
