section
/-! what the two sides owe each other: a relation that every call keeps, with like answers -/
def qs_write (I : IS → JS → IS → Prop) : Prop := ∀ (x : IS) (j : JS) (y : IS), I x j y → ∀ a1 : Int32, ∃ (r : Int32) (x2 y2 : IS), f_X6_write x a1 = some (r, x2) ∧ f_X7_write y a1 = some (r, y2) ∧ I x2 j y2
def qs_wipe (I : IS → JS → IS → Prop) : Prop := ∀ (x : IS) (j : JS) (y : IS), I x j y → ∃ (r : Int32) (x2 y2 : IS), f_X6_wipe x = some (r, x2) ∧ f_X7_wipe y = some (r, y2) ∧ I x2 j y2
def qs_fault (I : IS → JS → IS → Prop) : Prop := ∀ (x : IS) (j : JS) (y : IS), I x j y → ∃ (r : Int32) (x2 y2 : IS), f_X6_fault x = some (r, x2) ∧ f_X7_fault y = some (r, y2) ∧ I x2 j y2
def qs_lay (I : IS → JS → IS → Prop) : Prop := ∀ (x : IS) (j : JS) (y : IS), I x j y → ∃ (r : Int32) (x2 y2 : IS), f_X6_lay x = some (r, x2) ∧ f_X7_lay y = some (r, y2) ∧ I x2 j y2
def qs_power (I : IS → JS → IS → Prop) : Prop := ∀ (x : IS) (j : JS) (y : IS), I x j y → ∀ a1 a2 : Int32, ∃ (r : Int32) (x2 y2 : IS), f_X6_power x a1 a2 = some (r, x2) ∧ f_X7_power y a1 a2 = some (r, y2) ∧ I x2 j y2
def qs_leave (I : IS → JS → IS → Prop) : Prop := ∀ (x : IS) (j : JS) (y : IS), I x j y → ∀ a1 a2 : Int32, ∃ (r : Int32) (x2 y2 : IS), f_X6_leave x a1 a2 = some (r, x2) ∧ f_X7_leave y a1 a2 = some (r, y2) ∧ I x2 j y2
def qs_look (I : IS → JS → IS → Prop) : Prop := ∀ (x : IS) (j : JS) (y : IS), I x j y → ∀ a1 a2 : Int32, ∃ (r : Int32) (x2 y2 : IS), f_X6_look x a1 a2 = some (r, x2) ∧ f_X7_look y a1 a2 = some (r, y2) ∧ I x2 j y2
def qs_mode (I : IS → JS → IS → Prop) : Prop := ∀ (x : IS) (j : JS) (y : IS), I x j y → ∀ a1 : Int32, ∃ (r : Int32) (x2 y2 : IS), f_X6_mode x a1 = some (r, x2) ∧ f_X7_mode y a1 = some (r, y2) ∧ I x2 j y2
def qs_slide (I : IS → JS → IS → Prop) : Prop := ∀ (x : IS) (j : JS) (y : IS), I x j y → ∀ a1 : Int32, ∃ (r : Int32) (x2 y2 : IS), f_X6_slide x a1 = some (r, x2) ∧ f_X7_slide y a1 = some (r, y2) ∧ I x2 j y2
def qs_undo (I : IS → JS → IS → Prop) : Prop := ∀ (x : IS) (j : JS) (y : IS), I x j y → ∃ (r : Int32) (x2 y2 : IS), f_X6_undo x = some (r, x2) ∧ f_X7_undo y = some (r, y2) ∧ I x2 j y2
def qs_cell (I : IS → JS → IS → Prop) : Prop := ∀ (x : IS) (j : JS) (y : IS), I x j y → ∀ a1 a2 : Int32, ∃ (r : Int32) (x2 y2 : IS), f_X6_cell x a1 a2 = some (r, x2) ∧ f_X7_cell y a1 a2 = some (r, y2) ∧ I x2 j y2
def qs_ranked (I : IS → JS → IS → Prop) : Prop := ∀ (x : IS) (j : JS) (y : IS), I x j y → ∀ a1 a2 a3 : Int32, ∃ (r : Int32) (x2 y2 : IS), f_X6_ranked x a1 a2 a3 = some (r, x2) ∧ f_X7_ranked y a1 a2 a3 = some (r, y2) ∧ I x2 j y2
def qs_hides (I : IS → JS → IS → Prop) : Prop := ∀ (x : IS) (j : JS) (y : IS), I x j y → ∀ a1 a2 : Int32, ∃ (r : Int32) (x2 y2 : IS), f_X6_hides x a1 a2 = some (r, x2) ∧ f_X7_hides y a1 a2 = some (r, y2) ∧ I x2 j y2
def qs_bunch (I : IS → JS → IS → Prop) : Prop := ∀ (x : IS) (j : JS) (y : IS), I x j y → ∀ a1 a2 : Int32, ∃ (r : Int32) (x2 y2 : IS), f_X6_bunch x a1 a2 = some (r, x2) ∧ f_X7_bunch y a1 a2 = some (r, y2) ∧ I x2 j y2
def qs_enough (I : IS → JS → IS → Prop) : Prop := ∀ (x : IS) (j : JS) (y : IS), I x j y → ∀ a1 : Int32, ∃ (r : Int32) (x2 y2 : IS), f_X6_enough x a1 = some (r, x2) ∧ f_X7_enough y a1 = some (r, y2) ∧ I x2 j y2
def qs_noise (I : IS → JS → IS → Prop) : Prop := ∀ (x : IS) (j : JS) (y : IS), I x j y → ∀ a1 : Int32, ∃ r : Int32, f_X6_noise x a1 = some r ∧ f_X7_noise y a1 = some r
def qs_odds (I : IS → JS → IS → Prop) : Prop := ∀ (x : IS) (j : JS) (y : IS), I x j y → ∀ a1 : Int32, ∃ (r : Int64) (j2 : JS), f_X6_odds x j a1 = some (r, j2) ∧ f_X7_odds y a1 = some r ∧ I x j2 y
def qs_factor (I : IS → JS → IS → Prop) : Prop := ∀ (x : IS) (j : JS) (y : IS), I x j y → ∀ a1 a2 : Int32, ∃ (r : Int32) (j2 : JS), f_X6_factor x j a1 a2 = some (r, j2) ∧ f_X7_factor y a1 a2 = some r ∧ I x j2 y
def qs_drawn (I : IS → JS → IS → Prop) : Prop := ∀ (x : IS) (j : JS) (y : IS), I x j y → ∀ a1 : Int32, ∃ (r : Int32) (x2 y2 : IS), f_X6_drawn x a1 = some (r, x2) ∧ f_X7_drawn y a1 = some (r, y2) ∧ I x2 j y2
def qs_count (I : IS → JS → IS → Prop) : Prop := ∀ (x : IS) (j : JS) (y : IS), I x j y → ∀ a1 : Int32, ∃ (r : Int32) (x2 y2 : IS), f_X6_count x a1 = some (r, x2) ∧ f_X7_count y a1 = some (r, y2) ∧ I x2 j y2
def qs_init (I : IS → JS → IS → Prop) : Prop := ∃ x y : IS, f_X6_tail (fun _ _ => 0) = some x ∧ f_X7_tail (fun _ _ => 0) = some y ∧ I x (fun _ _ => 0) y
def q_Sim (I : IS → JS → IS → Prop) : Prop := qs_init I ∧ qs_write I ∧ qs_wipe I ∧ qs_fault I ∧ qs_lay I ∧ qs_power I ∧ qs_leave I ∧ qs_look I ∧ qs_mode I ∧ qs_slide I ∧ qs_undo I ∧ qs_cell I ∧ qs_ranked I ∧ qs_hides I ∧ qs_bunch I ∧ qs_enough I ∧ qs_noise I ∧ qs_odds I ∧ qs_factor I ∧ qs_drawn I ∧ qs_count I
end
