-- what the two objects have in common between any two calls
/-- of n guests, a of b coming each: how many of the b ^ n ways let just j come -/
def dst (a b : Nat) : Nat → Nat → Nat
  | 0, j => if j = 0 then 1 else 0
  | n + 1, 0 => dst a b n 0 * (b - a)
  | n + 1, j + 1 => dst a b n (j + 1) * (b - a) + dst a b n j * a
def sumTo (f : Nat → Nat) : Nat → Nat
  | 0 => 0
  | n + 1 => sumTo f n + f n
/-- .. and how many let more than p come (of at most 28 guests) -/
def tooMany (a b p n : Nat) : Nat := sumTo (fun j => if p < j then dst a b n j else 0) 29
def tooMuch (a b ra rb p n : Nat) : Prop := ra * b ^ n < tooMany a b p n * rb
def mgo (tm : Nat → Bool) : Nat → Nat → Nat
  | 0, n => n
  | f + 1, n => if tm (n + 1) then n else mgo tm f (n + 1)
def mostN (p a b ra rb : Nat) : Nat := mgo (fun n => decide (ra * b ^ n < tooMany a b p n * rb)) 8 p
def soldN (sl gu re : Nat → Nat) (k : Nat) : Nat → Nat
  | 0 => 0
  | t + 1 => soldN sl gu re k t + (if sl t = k ∧ re t = 0 then gu t else 0)
/-- slots -/
def IS (nS : Nat) (xp xa xb xm : Nat → Int32) (xn mn : Int32) (mp ma mb mra mrb : Nat → Int32) : Prop :=
  nS ≤ 8 ∧ xn = nI nS ∧ mn = nI nS ∧ (∀ k, k < nS → ∃ p a b ra rb : Nat, 1 ≤ p ∧ p ≤ 20 ∧ a ≤ b ∧ 1 ≤ b ∧ b ≤ 16 ∧ ra ≤ rb ∧ 1 ≤ rb ∧ rb ≤ 1000 ∧ xp k = nI p ∧ mp k = nI p ∧ xa k = nI a ∧ ma k = nI a ∧ xb k = nI b ∧ mb k = nI b ∧ mra k = nI ra ∧ mrb k = nI rb ∧ xm k = nI (mostN p a b ra rb)) ∧ ∀ k, nS ≤ k → k < 8 → mra k = 0
/-- tickets -/
def IT (nS nT : Nat) (sl gu ki re : Nat → Nat) (xs xg xk xr : Nat → Int32) (xn mn : Int32) (ms mg mk mr : Nat → Int32) : Prop :=
  nT ≤ 60 ∧ xn = nI nT ∧ mn = nI nT ∧ (∀ t, t < nT → sl t < nS ∧ 1 ≤ gu t ∧ gu t ≤ 9 ∧ ki t < 5 ∧ xs t = nI (sl t) ∧ ms t = nI (sl t) ∧ xg t = nI (gu t) ∧ mg t = nI (gu t) ∧ xk t = nI (ki t) ∧ mk t = nI (ki t)) ∧ (∀ t, t < 60 → re t ≤ 1 ∧ xr t = nI (re t) ∧ mr t = nI (re t)) ∧ ∀ t, nT ≤ t → re t = 0
def ISo (nS nT : Nat) (sl gu re : Nat → Nat) (xsold : Nat → Int32) : Prop := (∀ k, k < nS → xsold k = nI (soldN sl gu re k nT)) ∧ ∀ k, nS ≤ k → k < 8 → xsold k = 0
/-- requests -/
def wt (g : Nat → Int32) : Nat → Nat
  | 0 => 0
  | r + 1 => wt g r + (if g r = -1 then 1 else 0)
def IR (nS nR : Nat) (xs xg xk xt : Nat → Int32) (xn xd mn : Int32) (ms mg mk mt : Nat → Int32) : Prop :=
  nR ≤ 30 ∧ xn = nI nR ∧ mn = nI nR ∧ (∀ r, r < nR → ∃ s g k : Nat, s < nS ∧ 1 ≤ g ∧ g ≤ 9 ∧ k < 5 ∧ xs r = nI s ∧ ms r = nI s ∧ xg r = nI g ∧ mg r = nI g ∧ xk r = nI k ∧ mk r = nI k ∧ xt r = mt r) ∧ xd = nI (nR - wt mt nR)
/-- the collected text -/
def ITx (xt : Nat → Int32) (xl ml : Int32) (mt : Nat → Int32) : Prop := ∃ nL : Nat, nL ≤ 60 ∧ xl = nI nL ∧ ml = nI nL ∧ ∀ i, i < nL → xt i = mt i ∧ ∃ c : Nat, 33 ≤ c ∧ c ≤ 126 ∧ mt i = nI c
/-- the rules in force -/
def prI (so tw : Nat → Int32) (k : Nat) : Nat → Int32
  | 0 => 0
  | c + 1 => if so c = nI k then tw c else prI so tw k c
def peI (so on tw : Nat → Int32) (g : Nat) : Nat → Int32
  | 0 => 0
  | c + 1 => if so c = -1 ∧ on c ≤ nI g ∧ peI so on tw g c < tw c then tw c else peI so on tw g c
def IU (xpr xpe : Nat → Int32) (xc mc : Int32) (so on tw : Nat → Int32) : Prop := ∃ nC : Nat, nC ≤ 8 ∧ xc = nI nC ∧ mc = nI nC ∧ (∀ k, k < 5 → xpr k = prI so tw k nC) ∧ (∀ g, 1 ≤ g → g ≤ 9 → xpe g = peI so on tw g nC) ∧ ∀ c, c < nC → (∃ k v : Nat, k < 5 ∧ so c = nI k ∧ v ≤ 99999 ∧ tw c = nI v) ∨ (so c = -1 ∧ ∃ u v : Nat, 1 ≤ u ∧ u ≤ 9 ∧ on c = nI u ∧ v ≤ 100 ∧ tw c = nI v)
/-- doors -/
def sec (v : Int32) : Prop := v = -1 ∨ ∃ s : Nat, s ≤ 100000 ∧ v = nI s
def ID (nT : Nat) (xs xf xd : Nat → Int32) (xn : Int32) (xo : Nat → Int32) (mo ms mf : Nat → Int32) (mn : Int32) (dt dr ds : Nat → Int32) : Prop :=
  (∀ t r, t < 60 → r < 6 → xs (6 * t + r) = ms (60 * r + t) ∧ sec (ms (60 * r + t))) ∧ (∀ t r, nT ≤ t → t < 60 → r < 6 → ms (60 * r + t) = -1) ∧ (∀ t, t < 60 → xf t = mf t ∧ sec (mf t)) ∧ (∀ t, t < 60 → (∀ r, r < 6 → ms (60 * r + t) = -1) → mf t = -1) ∧ (∀ t, t < 60 → xo t = mo t ∧ sec (mo t)) ∧
  ∃ nD : Nat, nD ≤ 300 ∧ xn = nI nD ∧ mn = nI nD ∧ ∀ k, k < nD → ∃ t r : Nat, t < 60 ∧ r < 6 ∧ xd k = nI (6 * t + r) ∧ dt k = nI t ∧ dr k = nI r ∧ ds k = ms (60 * r + t) ∧ ms (60 * r + t) ≠ -1
def INV (x_slots_places : Nat → Int32) (x_slots_above : Nat → Int32) (x_slots_below : Nat → Int32) (x_slots_most : Nat → Int32) (x_slots_sold : Nat → Int32) (x_slots_made : Int32) (x_tickets_slot : Nat → Int32) (x_tickets_guests : Nat → Int32) (x_tickets_kind : Nat → Int32) (x_tickets_returned : Nat → Int32) (x_tickets_made : Int32) (x_requests_slot : Nat → Int32) (x_requests_guests : Nat → Int32) (x_requests_kind : Nat → Int32) (x_requests_ticket : Nat → Int32) (x_requests_made : Int32) (x_requests_served : Int32) (x_chances_ways : Nat → Int64) (x_tariff_text : Nat → Int32) (x_tariff_length : Int32) (x_tariff_prices : Nat → Int32) (x_tariff_percents : Nat → Int32) (x_tariff_clauses : Int32) (x_tariff_newPrices : Nat → Int32) (x_tariff_newPercents : Nat → Int32) (x_tariff_newClauses : Int32) (x_tariff_state : Int32) (x_tariff_subject : Int32) (x_tariff_number : Int32) (x_tariff_digits : Int32) (x_doors_seconds : Nat → Int32) (x_doors_order : Nat → Int32) (x_doors_firstIn : Nat → Int32) (x_doors_doubles : Nat → Int32) (x_doors_found : Int32) (x_doors_goneOut : Nat → Int32) (m_thrown : Int32) (m_slots : Int32) (m_places : Nat → Int32) (m_aboves : Nat → Int32) (m_belows : Nat → Int32) (m_riskAboves : Nat → Int32) (m_riskBelows : Nat → Int32) (m_tickets : Int32) (m_slotOf : Nat → Int32) (m_guests : Nat → Int32) (m_kinds : Nat → Int32) (m_returned : Nat → Int32) (m_outs : Nat → Int32) (m_requests : Int32) (m_requestSlots : Nat → Int32) (m_requestGuests : Nat → Int32) (m_requestKinds : Nat → Int32) (m_givens : Nat → Int32) (m_length : Int32) (m_text : Nat → Int32) (m_clauses : Int32) (m_sorts : Nat → Int32) (m_ones : Nat → Int32) (m_twos : Nat → Int32) (m_found : Int32) (m_readSorts : Nat → Int32) (m_readOnes : Nat → Int32) (m_readTwos : Nat → Int32) (m_seconds : Nat → Int32) (m_firsts : Nat → Int32) (m_doubles : Int32) (m_doubleTickets : Nat → Int32) (m_doubleReaders : Nat → Int32) (m_doubleSeconds : Nat → Int32) (m_digits : Nat → Int32) (o_ : Nat → Int64) : Prop := ∃ (nS nT nR : Nat) (sl gu ki re : Nat → Nat), IS nS x_slots_places x_slots_above x_slots_below x_slots_most x_slots_made m_slots m_places m_aboves m_belows m_riskAboves m_riskBelows ∧ IT nS nT sl gu ki re x_tickets_slot x_tickets_guests x_tickets_kind x_tickets_returned x_tickets_made m_tickets m_slotOf m_guests m_kinds m_returned ∧ ISo nS nT sl gu re x_slots_sold ∧ IR nS nR x_requests_slot x_requests_guests x_requests_kind x_requests_ticket x_requests_made x_requests_served m_requests m_requestSlots m_requestGuests m_requestKinds m_givens ∧ ITx x_tariff_text x_tariff_length m_length m_text ∧ IU x_tariff_prices x_tariff_percents x_tariff_clauses m_clauses m_sorts m_ones m_twos ∧ ID nT x_doors_seconds x_doors_firstIn x_doors_doubles x_doors_found x_doors_goneOut m_outs m_seconds m_firsts m_doubles m_doubleTickets m_doubleReaders m_doubleSeconds
-- the ends of a case: both threw alike; both answered alike
theorem fin_x {c : Int32} {A B : Prop} (hc : c ≠ 0) (h : B) : (c = c → ((c = 0 → A) ∧ (¬ (c = 0) → B))) ∧ (¬ (c = c) → False) := ⟨fun _ => ⟨fun q => absurd q hc, fun _ => h⟩, fun q => q rfl⟩
theorem fin_0 {A B : Prop} (h : A) : ((0 : Int32) = (0 : Int32) → (((0 : Int32) = 0 → A) ∧ (¬ ((0 : Int32) = 0) → B))) ∧ (¬ ((0 : Int32) = (0 : Int32)) → False) := ⟨fun _ => ⟨fun _ => h, fun q => absurd rfl q⟩, fun q => q rfl⟩
theorem fin_o {f : Nat → Int64} {v w : Int64} {A : Prop} (e : v = w) (h : A) : ((vp_updL f 0 v) (0 : Int32).toNatClampNeg = w → A) ∧ (¬ ((vp_updL f 0 v) (0 : Int32).toNatClampNeg = w) → False) := ⟨fun _ => h, fun q => q (by rw [e]; rfl)⟩
theorem fin_c {f : Nat → Int64} {c : Int32} {w : Int64} {A B : Prop} (hc : c ≠ 0) (h : B) : (c = c → ((c = 0 → ((f (0 : Int32).toNatClampNeg = w → A) ∧ (¬ (f (0 : Int32).toNatClampNeg = w) → False))) ∧ (¬ (c = 0) → B))) ∧ (¬ (c = c) → False) := fin_x hc h
theorem script_in {L j : Nat} {i : Int32} (hL : L ≤ 3072) (hj : 6 * j + 6 ≤ L) (e4 : i = nI (6 * j)) : vp_in i L ∧ vp_in (i + (1 : Int32)) L ∧ vp_in (i + (2 : Int32)) L ∧ vp_in (i + (3 : Int32)) L ∧ vp_in (i + (4 : Int32)) L ∧ vp_in (i + (5 : Int32)) L := by
  subst e4
  exact ⟨vin (by omega) (by omega), (by rw [show nI (6 * j) + (1 : Int32) = nI (6 * j + 1) from nI_add _ 1]; exact vin (by omega) (by omega)), (by rw [show nI (6 * j) + (2 : Int32) = nI (6 * j + 2) from nI_add _ 2]; exact vin (by omega) (by omega)), (by rw [show nI (6 * j) + (3 : Int32) = nI (6 * j + 3) from nI_add _ 3]; exact vin (by omega) (by omega)), (by rw [show nI (6 * j) + (4 : Int32) = nI (6 * j + 4) from nI_add _ 4]; exact vin (by omega) (by omega)), (by rw [show nI (6 * j) + (5 : Int32) = nI (6 * j + 5) from nI_add _ 5]; exact vin (by omega) (by omega))⟩
