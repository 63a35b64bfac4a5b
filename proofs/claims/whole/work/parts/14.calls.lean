/-! methods by specification: a predicate transformer sp; SpOk: the machine's method does as sp says -/
def e_AA (M : HM) (sz : Nat) : Nat → Prop := fun q => e_wr M q ∨ sz ≤ q
def CM (l : Launch) (y : MethodName) (ws : List Cond) (rm : Room) (as : List Value) (M : HM) (Q : QT) : Prop := ∀ (E : Ev) (sz : Nat), Met l y ws rm (va_Pc as (fun U => U.heap.size = sz ∧ Sees E M U.heap ∧ Tbl E U)) (e_Qc E (e_AA M sz) Q) rm.cells rm.slots (e_AA M sz)
def SpOk (y : MethodName) (cc : ByteArray) (nL : Nat) (ret : Option FieldType) (f lo : Nat) (sp : SP) : Prop := ∀ (l : Launch) (as : List Value) (M : HM) (k n : Nat) (Q : QT), sp as M k n Q → ∃ mc ms, mc ≤ k ∧ ms ≤ n ∧ CM l y (.code y cc nL ret :: WS) { frames := f, cells := mc, slots := ms, locals := lo } as M (fun v M' _ _ => Q v M' (k - mc) (n - ms))
theorem m_ok {own nL rt : Nat} {ini : Bool} {cc : ByteArray} {y : MethodName} {ret : Option FieldType} {f lo : Nat} {cs : CS} {sp : SP} (hy : plainName y.cls = true) (hcls : y.cls = rX own) (hret : e_rt rt ret) (hini : ini = true → y.name = "<init>")
    (hcs : ∀ op x na cl sp, cs op x = some (na, cl, sp) → CallOK own f lo op x na cl sp)
    (body : ∀ (as : List Value) (M : HM) (k n : Nat) (Q : QT), sp as M k n Q → ∃ mc ms, mc ≤ k ∧ ms ≤ n ∧ (lg_sl as).length ≤ nL ∧ ∀ G : GT, e_cl own nL rt ini cc cs (fun v M' _ _ => Q v M' (k - mc) (n - ms)) G → G 0 (lv_args 0 as) [] M mc ms) : SpOk y cc nL ret f lo sp := by
  intro l as M k n Q hsp
  obtain ⟨mc, ms, h1, h2, h3, hbody⟩ := body as M k n Q hsp
  refine ⟨mc, ms, h1, h2, fun E sz => ?_⟩
  refine Met.ofW (cc := cc) (maxL := nL) (ret := ret) hy rfl ?_
  intro p e s m args below meth c s₁ B hml hv
  obtain ⟨rfl, hsz, hS, hT⟩ := hv
  subst hsz
  have hts := atoms_spec (ws := .code y cc nL ret :: WS) B.pre
  have hown : s.vm.findClass (rX own) = some m.cls := by rw [← hcls]; exact findClass_of_methodNamed B.named
  have hC : Ctx p s m as.toArray meth c own nL rt ini cc E (e_AA M s.heap.size) := ⟨B.exec, B.bytes, hml, hown, fun w hw => hts w (List.mem_cons_of_mem _ hw), hT, fun q hq => Or.inr hq, B.notSynchronized, by rw [B.returns]; exact hret, fun hi => (name_of_methodNamed B.named B.method).1.trans (hini hi)⟩
  have hg := hbody _ (gw_cl (R := (headSpec (Jvm.Cond.code y cc nL ret :: WS) { frames := f, cells := mc, slots := ms, locals := lo }).room) (l := l) (e := e) (below := below) hC hcs)
  have hl := lv_entry as (n := nL) h3
  rw [lg_entry_eq]
  refine W_eqc (c2 := mc - mc) (s2 := ms - ms) (by omega) (by omega) ?_
  exact hg s.heap [] _ hl hS (fun q hq => Or.inl hq) va_S.rf (Nat.le_refl _) (Nat.le_refl _)
theorem ws_good {w : Cond} (h : w ∈ WS) : (w.onTables && w.keeps) = true ∨ ∃ ty, w = .arrayClass ty := good_of_word (List.mem_filter.mp h).2
section CGO
variable {p : Program} {l : Launch} {e : Env} {R : Room} {s : State} {m : MethodId} {args : Array Value} {below : List Frame} {meth : Method} {c : Code}
theorem call_go {nL : Nat} {E : Ev} {A : Nat → Prop} {Q Q' : QT} {pc : Nat} {L : LV} {st0 rest : List Value} {M : HM} {k n mc ms : Nat} {H : Heap} {locs : List Loc} {ls : Array Slot} {a : Array Value} (hmc : mc ≤ k) (hms : ms ≤ n) (hL : lv_has ls nL L) (hA : ∀ q, e_wr M q → A q) (hAf : ∀ q, s.heap.size ≤ q → A q) (hV : va_S A s.heap H locs) (hk : k ≤ R.cells) (hn : n ≤ R.slots)
    (hr : va_Run p l e R s m args below meth c H locs (R.cells - k) (R.slots - n) mc ms (F0 m pc ls st0) rest (e_Qc E (e_AA M H.size) (fun v M' _ _ => Q' v M' (k - mc) (n - ms)) a) (e_AA M H.size))
    (kk : ∀ v M' k' n', Q' v M' k' n' → Gw p l e R s m args below meth c nL E A Q (pc + 3) L (v.toList ++ rest) M' k' n') : W p l e R s m args below meth c H locs (R.cells - k) (R.slots - n) (MQ below (e_Qc E A Q) args s R.cells R.slots A) (F0 m pc ls st0) := by
  intro T hT X
  obtain ⟨v, st₀, t, T', Lc, h0, X', hLc, e1, e2, ⟨⟨v', M', k', n', hv, hq, hS, hw⟩, hz, hkp⟩, go⟩ := hr T hT X
  cases hv
  rw [h0] at hz hkp
  have hAA : ∀ q, e_AA M H.size q → A q := fun q hq => hq.elim (hA q) (fun z => hAf q (Nat.le_trans hV.1 z))
  have hV' : va_S A s.heap T'.heap (locs ++ Lc) := ⟨Nat.le_trans hV.1 (by rw [e1]; exact hz), fun q h1 h2 => by rw [e1, hkp q (Nat.lt_of_lt_of_le h1 hV.1) (fun z => h2 (hAA q z))]; exact hV.2.1 q h1 h2, fun q hq => by
      rcases List.mem_append.mp hq with h | h
      · exact hV.2.2 q h
      · exact hAA _ (hLc q h)⟩
  have key := kk v M' (k - mc) (n - ms) hq T'.heap (locs ++ Lc) ls hL (by rw [e1]; exact hS) (fun q hq => hAA q (hw q hq)) hV' (by omega) (by omega)
  obtain ⟨t2, a1, b1⟩ := (W_eqc (by omega) (by omega) key : W p l e R s m args below meth c T'.heap (locs ++ Lc) (R.cells - k + mc) (R.slots - n + ms) _ _) T' rfl X'
  exact ⟨t2, go t2 a1, b1⟩
end CGO
theorem blind {E : Ev} {as : List Value} {M : HM} {sz : Nat} : FrameBlind (va_Pc as (fun U => U.heap.size = sz ∧ Sees E M U.heap ∧ Tbl E U)) := fun a U g mk q => by
  obtain ⟨q0, q1, q2, q3⟩ := q
  exact ⟨q0, q1, q2, Tbl.warm (s := U) (U := U.calling g mk a) (State.WarmedH.refl U) q3⟩
theorem good_app {y : MethodName} {cc : ByteArray} {nL : Nat} {ret : Option FieldType} (ws : List Cond) (h : ∀ w ∈ ws, w ∈ WS) (hc : Cond.code y cc nL ret ∈ WS) : GoodIn WS (ws ++ (Cond.code y cc nL ret :: WS)) := by
  intro w hw
  have : w ∈ WS := by
    rcases List.mem_append.mp hw with h1 | h1
    · exact h w h1
    · rcases List.mem_cons.mp h1 with rfl | h2
      · exact hc
      · exact h2
  exact ⟨this, ws_good this⟩
theorem st_cut {st : List Value} {na : Nat} {v : Value} {As : List Value} (h : (st.take na).reverse = v :: As) : st = As.reverse ++ v :: st.drop na := by
  have h2 : st.take na = (v :: As).reverse := by rw [← h, List.reverse_reverse]
  have h3 := (List.take_append_drop na st).symm
  rw [h2] at h3
  exact h3.trans (by simp)
theorem rc_of {M : HM} {cl : Nat} {as : List Value} (h : e_rc M cl as) (hcl : cl ≠ 9) : ∃ b As, as = .ref b :: As ∧ mK M b = cl + 1 := by
  unfold e_rc at h
  split at h
  · rename_i b As
    exact ⟨b, As, rfl, h.resolve_left hcl⟩
  · exact absurd h hcl
theorem call_V {own Rf Rl x na cl nL2 f lo : Nat} {y : MethodName} {cc2 : ByteArray} {ret : Option FieldType} {sp : SP} (hok : SpOk y cc2 nL2 ret f lo sp) (hcl : cl < 8) (hcls : y.cls = rX cl) (hws : ∀ w ∈ ([.methodLink (rX own) x y, .instanceMethod y, .selects (rX cl) y y, .initialized (rX cl)] : List Cond), w ∈ WS) (hcd : Cond.code y cc2 nL2 ret ∈ WS)
    (hd : y.cls ≠ "java/lang/invoke/MethodHandle" ∧ y.cls ≠ "java/lang/invoke/VarHandle" ∧ (parseMethodDescriptor y.desc).map (fun d => d.parameters.length) = some na) (hR : f + 1 ≤ Rf ∧ 8 + (nL2 + 11) + lo ≤ Rl) : CallOK own Rf Rl 0 x (na + 1) cl sp := by
  intro p l e R s m args below meth c cc nL rt ini E A Q Q' pc L st M k n hC hRf hRl hdec hlen hrm hrc hQ hsp H locs ls hL hS hA hV hk hn
  obtain ⟨b, As, has, hbk⟩ := rc_of hrc (by omega)
  have hst := st_cut has
  obtain ⟨mc, ms, hmc, hms, hCM⟩ := hok l _ M k n Q' hsp
  rw [has] at hCM
  obtain ⟨hx, hb, hml, hown, hts, hT, hAf, -, -, -⟩ := hC
  have hAl : As.length = na := by
    have h2 : (st.take (na + 1)).reverse.length = As.length + 1 := by rw [has]; simp
    simp at h2
    omega
  have hT' : GoodIn WS (wsV (rX own) x (rX cl) y (Cond.code y cc2 nL2 ret :: WS)) := good_app _ hws hcd
  obtain ⟨r', hr', cellB, g1, g2, g3, -⟩ := hS.o hbk hcl
  have hcl2 := (hT.1.1 cl _ (vw_at cl hcl)).2.1
  have hr := va_runV (H := H) (locs := locs) (cells := R.cells - k) (slots := R.slots - n) (g := F0 m pc ls st) (As := As) (rest := st.drop (na + 1)) (below := below) (meth := meth) (e := e) ⟨hx, hb, hml, hown, hts⟩ (hCM E H.size) (cwV (R := R) na hts hT' rfl rfl rfl ⟨hcls, hd⟩ ⟨Nat.le_trans hR.1 hRf, Nat.le_trans hR.2 hRl⟩)
    ⟨blind, ⟨cellB, g1, by rw [g3]; rfl, by rw [g2]; exact hcl2⟩, fun U hU hW => ⟨rfl, by rw [hU], by rw [hU]; exact hS, Tbl.warm hW hT⟩⟩ rfl hAl hL.1 hst (lv_room hrm) hdec ⟨by show R.cells - k + mc ≤ R.cells; omega, by show R.slots - n + ms ≤ R.slots; omega⟩
  exact call_go hmc hms hL hA hAf hV hk hn hr hQ
theorem st_cutS {st : List Value} {na : Nat} : st = (st.take na).reverse.reverse ++ st.drop na := by rw [List.reverse_reverse]; exact (List.take_append_drop na st).symm
theorem call_S {own Rf Rl x na nL2 f lo : Nat} {y : MethodName} {cc2 : ByteArray} {ret : Option FieldType} {sp : SP} (hok : SpOk y cc2 nL2 ret f lo sp) (hws : ∀ w ∈ ([.methodLink (rX own) x y, .static y, .initialized y.cls] : List Cond), w ∈ WS) (hcd : Cond.code y cc2 nL2 ret ∈ WS)
    (hd : y.cls ≠ "java/lang/invoke/MethodHandle" ∧ y.cls ≠ "java/lang/invoke/VarHandle" ∧ (parseMethodDescriptor y.desc).map (fun d => d.parameters.length) = some na) (hR : f + 1 ≤ Rf ∧ 8 + (nL2 + 11) + lo ≤ Rl) : CallOK own Rf Rl 2 x na 9 sp := by
  intro p l e R s m args below meth c cc nL rt ini E A Q Q' pc L st M k n hC hRf hRl hdec hlen hrm hrc hQ hsp H locs ls hL hS hA hV hk hn
  obtain ⟨mc, ms, hmc, hms, hCM⟩ := hok l _ M k n Q' hsp
  obtain ⟨hx, hb, hml, hown, hts, hT, hAf, -, -, -⟩ := hC
  have hAl : (st.take na).reverse.length = na := by simp; omega
  have hT' : GoodIn WS (va_wsS (rX own) x y (Cond.code y cc2 nL2 ret :: WS)) := good_app _ hws hcd
  have hr := va_runS (H := H) (locs := locs) (cells := R.cells - k) (slots := R.slots - n) (g := F0 m pc ls st) (As := (st.take na).reverse) (rest := st.drop na) (below := below) (meth := meth) (e := e) ⟨hx, hb, hml, hown, hts⟩ (hCM E H.size) (va_cwS (R := R) na hts hT' rfl rfl rfl hd ⟨Nat.le_trans hR.1 hRf, Nat.le_trans hR.2 hRl⟩)
    ⟨blind, fun U hU hW => ⟨rfl, by rw [hU], by rw [hU]; exact hS, Tbl.warm hW hT⟩⟩ rfl hAl hL.1 st_cutS (lv_room hrm) hdec ⟨by show R.cells - k + mc ≤ R.cells; omega, by show R.slots - n + ms ≤ R.slots; omega⟩
  exact call_go hmc hms hL hA hAf hV hk hn hr hQ
theorem call_SN {own Rf Rl x na nL2 f lo : Nat} {y : MethodName} {cc2 : ByteArray} {ret : Option FieldType} {sp : SP} (hok : SpOk y cc2 nL2 ret f lo sp) (hws : ∀ w ∈ ([.static y, .initialized y.cls] : List Cond), w ∈ WS) (hnw : Cond.methodLinkNest (rX own) x y "NumberRiver" ∈ NS) (hcd : Cond.code y cc2 nL2 ret ∈ WS)
    (hd : y.cls ≠ "java/lang/invoke/MethodHandle" ∧ y.cls ≠ "java/lang/invoke/VarHandle" ∧ (parseMethodDescriptor y.desc).map (fun d => d.parameters.length) = some na) (hR : f + 1 ≤ Rf ∧ 8 + (nL2 + 11) + lo ≤ Rl) : CallOK own Rf Rl 2 x na 9 sp := by
  intro p l e R s m args below meth c cc nL rt ini E A Q Q' pc L st M k n hC hRf hRl hdec hlen hrm hrc hQ hsp H locs ls hL hS hA hV hk hn
  obtain ⟨mc, ms, hmc, hms, hCM⟩ := hok l _ M k n Q' hsp
  obtain ⟨hx, hb, hml, hown, hts, hT, hAf, -, -, -⟩ := hC
  have hAl : (st.take na).reverse.length = na := by simp; omega
  have hT' : GoodIn WS (Cond.code y cc2 nL2 ret :: WS) := good_app [] (fun _ h => absurd h List.not_mem_nil) hcd
  have hr := va_runSN (H := H) (locs := locs) (cells := R.cells - k) (slots := R.slots - n) (g := F0 m pc ls st) (As := (st.take na).reverse) (rest := st.drop na) (below := below) (meth := meth) (e := e) ⟨hx, hb, hml, hown, hts⟩ (hCM E H.size) ⟨va_cnB (R := R) na hts hT' rfl rfl rfl (hT.2.1 _ hnw) (hts _ (hws _ (by simp))) hd ⟨Nat.le_trans hR.1 hRf, Nat.le_trans hR.2 hRl⟩, hts _ (hws _ (by simp)), trivial⟩
    ⟨blind, fun U hU hW => ⟨rfl, by rw [hU], by rw [hU]; exact hS, Tbl.warm hW hT⟩⟩ rfl hAl hL.1 st_cutS (lv_room hrm) hdec ⟨by show R.cells - k + mc ≤ R.cells; omega, by show R.slots - n + ms ≤ R.slots; omega⟩
  exact call_go hmc hms hL hA hAf hV hk hn hr hQ
theorem call_I {own Rf Rl x na cl nL2 f lo : Nat} {y : MethodName} {cc2 : ByteArray} {sp : SP} (hok : SpOk y cc2 nL2 none f lo sp) (hcl : cl ≠ 9) (hy1 : y.name = "<init>") (hws : ∀ w ∈ ([.methodLink (rX own) x y, .instanceMethod y, .initialized y.cls] : List Cond), w ∈ WS) (hcd : Cond.code y cc2 nL2 none ∈ WS)
    (hd : y.cls ≠ "java/lang/invoke/MethodHandle" ∧ y.cls ≠ "java/lang/invoke/VarHandle" ∧ (parseMethodDescriptor y.desc).map (fun d => d.parameters.length) = some na) (hR : f + 1 ≤ Rf ∧ 8 + (nL2 + 11) + lo ≤ Rl) : CallOK own Rf Rl 1 x (na + 1) cl sp := by
  intro p l e R s m args below meth c cc nL rt ini E A Q Q' pc L st M k n hC hRf hRl hdec hlen hrm hrc hQ hsp H locs ls hL hS hA hV hk hn
  obtain ⟨b, As, has, hbk⟩ := rc_of hrc hcl
  have hst := st_cut has
  obtain ⟨mc, ms, hmc, hms, hCM⟩ := hok l _ M k n Q' hsp
  rw [has] at hCM
  obtain ⟨hx, hb, hml, hown, hts, hT, hAf, -, -, -⟩ := hC
  have hAl : As.length = na := by
    have h2 : (st.take (na + 1)).reverse.length = As.length + 1 := by rw [has]; simp
    simp at h2
    omega
  have hT' : GoodIn WS (Cond.code y cc2 nL2 none :: WS) := good_app [] (fun _ h => absurd h List.not_mem_nil) hcd
  have hr := va_runI (H := H) (locs := locs) (cells := R.cells - k) (slots := R.slots - n) (g := F0 m pc ls st) (As := As) (b := b) (rest := st.drop (na + 1)) (below := below) (meth := meth) (e := e) ⟨hx, hb, hml, hown, hts⟩ (hCM E H.size) (cwI (R := R) na hts hT' rfl rfl rfl (hts _ (hws _ (by simp))) (hts _ (hws _ (by simp))) (hts _ (hws _ (by simp))) hy1 hd ⟨Nat.le_trans hR.1 hRf, Nat.le_trans hR.2 hRl⟩)
    ⟨blind, fun U hU hW => ⟨rfl, by rw [hU], by rw [hU]; exact hS, Tbl.warm hW hT⟩⟩ rfl hAl hL.1 hst (lv_room hrm) hdec ⟨by show R.cells - k + mc ≤ R.cells; omega, by show R.slots - n + ms ≤ R.slots; omega⟩
  exact call_go hmc hms hL hA hAf hV hk hn hr hQ
theorem call_IN {own Rf Rl x na cl nL2 f lo : Nat} {y : MethodName} {cc2 : ByteArray} {sp : SP} (hok : SpOk y cc2 nL2 none f lo sp) (hcl : cl ≠ 9) (hy1 : y.name = "<init>") (hws : ∀ w ∈ ([.instanceMethod y, .initialized y.cls] : List Cond), w ∈ WS) (hnw : Cond.methodLinkNest (rX own) x y "NumberRiver" ∈ NS) (hcd : Cond.code y cc2 nL2 none ∈ WS)
    (hd : y.cls ≠ "java/lang/invoke/MethodHandle" ∧ y.cls ≠ "java/lang/invoke/VarHandle" ∧ (parseMethodDescriptor y.desc).map (fun d => d.parameters.length) = some na) (hR : f + 1 ≤ Rf ∧ 8 + (nL2 + 11) + lo ≤ Rl) : CallOK own Rf Rl 1 x (na + 1) cl sp := by
  intro p l e R s m args below meth c cc nL rt ini E A Q Q' pc L st M k n hC hRf hRl hdec hlen hrm hrc hQ hsp H locs ls hL hS hA hV hk hn
  obtain ⟨b, As, has, hbk⟩ := rc_of hrc hcl
  have hst := st_cut has
  obtain ⟨mc, ms, hmc, hms, hCM⟩ := hok l _ M k n Q' hsp
  rw [has] at hCM
  obtain ⟨hx, hb, hml, hown, hts, hT, hAf, -, -, -⟩ := hC
  have hAl : As.length = na := by
    have h2 : (st.take (na + 1)).reverse.length = As.length + 1 := by rw [has]; simp
    simp at h2
    omega
  have hT' : GoodIn WS (Cond.code y cc2 nL2 none :: WS) := good_app [] (fun _ h => absurd h List.not_mem_nil) hcd
  have hr := va_runIN (H := H) (locs := locs) (cells := R.cells - k) (slots := R.slots - n) (g := F0 m pc ls st) (As := As) (b := b) (rest := st.drop (na + 1)) (below := below) (meth := meth) (e := e) ⟨hx, hb, hml, hown, hts⟩ (hCM E H.size) ⟨va_cnB (R := R) na hts hT' rfl rfl rfl (hT.2.1 _ hnw) (hts _ (hws _ (by simp))) hd ⟨Nat.le_trans hR.1 hRf, Nat.le_trans hR.2 hRl⟩, hy1, hts _ (hws _ (by simp))⟩
    ⟨blind, fun U hU hW => ⟨rfl, by rw [hU], by rw [hU]; exact hS, Tbl.warm hW hT⟩⟩ rfl hAl hL.1 hst (lv_room hrm) hdec ⟨by show R.cells - k + mc ≤ R.cells; omega, by show R.slots - n + ms ≤ R.slots; omega⟩
  exact call_go hmc hms hL hA hAf hV hk hn hr hQ
/-- Object.<init> -/
def sp_obj : SP := fun as M k n Q => (∃ a, as = [.ref a]) ∧ Q none M k n
theorem call_O {own Rf Rl x : Nat} (hws : Cond.methodLink (rX own) x objectInit ∈ WS) (hR : 1 ≤ Rf ∧ 20 ≤ Rl) : CallOK own Rf Rl 1 x 1 9 sp_obj := by
  intro p l e R s m args below meth c cc nL rt ini E A Q Q' pc L st M k n hC hRf hRl hdec hlen hrm hrc hQ hsp H locs ls hL hS hA hV hk hn
  obtain ⟨⟨a, ha⟩, hsp⟩ := hsp
  have hst := st_cut ha
  obtain ⟨hx, hb, hml, hown, hts, hT, hAf, -, -, -⟩ := hC
  have hrm2 : 2 * (F0 m pc ls st).monitorRoom + ((st.drop 1).map fun v => v.category).sum ≤ 8 := lv_room hrm
  refine W.objInit hx hb hown (hts _ hws) (hts (.instanceMethod objectInit) (by decide +kernel)) (hts (.code objectInit ⟨#[0xb1]⟩ 1 none) (by decide +kernel)) rfl (by rw [hml]; exact hL.1) hst hdec (by omega) (by omega) ?_
  exact hQ _ _ _ _ hsp H locs ls hL hS hA hV hk hn
