/-! the law: what is asked of each pair of calls, and its loop -/
def gSim_space (Inv : Nat → S2 → S2 → Prop) : Prop := ∀ (n : Nat) (σ μ : S2) (a_group : Int), Inv n σ μ → n < 512 → (-2147483648 ≤ a_group ∧ a_group ≤ 2147483647) → ∃ (r : Int) (s1 : S2) (b : Int) (m1 : S2), FX7_space a_group σ = some (r, s1) ∧ FX8_space a_group μ = some (b, m1) ∧ (gxc r = 0 ∨ gxc r = 2 ∨ gxc r = 3) ∧ m1 101 0 = (if gxc r = 0 then 0 else if gxc r = 2 then 1 else 2 : Int) ∧ (gxc r = 0 → b = r) ∧ Inv (n + 1) (if gxc r = 0 then upd2 s1 51 0 r else s1) m1
def gSim_map (Inv : Nat → S2 → S2 → Prop) : Prop := ∀ (n : Nat) (σ μ : S2) (a_space a_from a_count a_rights a_file a_index a_shared a_grows : Int), Inv n σ μ → n < 512 → (-2147483648 ≤ a_space ∧ a_space ≤ 2147483647) → (-2147483648 ≤ a_from ∧ a_from ≤ 2147483647) → (-2147483648 ≤ a_count ∧ a_count ≤ 2147483647) → (-2147483648 ≤ a_rights ∧ a_rights ≤ 2147483647) → (-2147483648 ≤ a_file ∧ a_file ≤ 2147483647) → (-2147483648 ≤ a_index ∧ a_index ≤ 2147483647) → (0 ≤ a_shared ∧ a_shared ≤ 1) → (0 ≤ a_grows ∧ a_grows ≤ 1) → ∃ (r : Int) (s1 : S2) (b : Int) (m1 : S2), FX7_map a_space a_from a_count a_rights a_file a_index a_shared a_grows σ = some (r, s1) ∧ FX8_map a_space a_from a_count a_rights a_file a_index a_shared a_grows μ = some (b, m1) ∧ (gxc r = 0 ∨ gxc r = 1 ∨ gxc r = 2 ∨ gxc r = 3) ∧ m1 101 0 = (if gxc r = 0 then 0 else if gxc r = 1 then 1 else if gxc r = 2 then 2 else 3 : Int) ∧ (gxc r = 0 → b = r) ∧ Inv (n + 1) (if gxc r = 0 then upd2 s1 51 0 r else s1) m1
def gSim_unmap (Inv : Nat → S2 → S2 → Prop) : Prop := ∀ (n : Nat) (σ μ : S2) (a_space a_from a_count : Int), Inv n σ μ → n < 512 → (-2147483648 ≤ a_space ∧ a_space ≤ 2147483647) → (-2147483648 ≤ a_from ∧ a_from ≤ 2147483647) → (-2147483648 ≤ a_count ∧ a_count ≤ 2147483647) → ∃ (r : Int) (s1 : S2) (b : Int) (m1 : S2), FX7_unmap a_space a_from a_count σ = some (r, s1) ∧ FX8_unmap a_space a_from a_count μ = some (b, m1) ∧ (gxc r = 0 ∨ gxc r = 1 ∨ gxc r = 2 ∨ gxc r = 3) ∧ m1 101 0 = (if gxc r = 0 then 0 else if gxc r = 1 then 1 else if gxc r = 2 then 2 else 3 : Int) ∧ (gxc r = 0 → b = r) ∧ Inv (n + 1) (if gxc r = 0 then upd2 s1 51 0 r else s1) m1
def gSim_protect (Inv : Nat → S2 → S2 → Prop) : Prop := ∀ (n : Nat) (σ μ : S2) (a_space a_from a_count a_rights : Int), Inv n σ μ → n < 512 → (-2147483648 ≤ a_space ∧ a_space ≤ 2147483647) → (-2147483648 ≤ a_from ∧ a_from ≤ 2147483647) → (-2147483648 ≤ a_count ∧ a_count ≤ 2147483647) → (-2147483648 ≤ a_rights ∧ a_rights ≤ 2147483647) → ∃ (r : Int) (s1 : S2) (b : Int) (m1 : S2), FX7_protect a_space a_from a_count a_rights σ = some (r, s1) ∧ FX8_protect a_space a_from a_count a_rights μ = some (b, m1) ∧ (gxc r = 0 ∨ gxc r = 1 ∨ gxc r = 2 ∨ gxc r = 3) ∧ m1 101 0 = (if gxc r = 0 then 0 else if gxc r = 1 then 1 else if gxc r = 2 then 2 else 3 : Int) ∧ (gxc r = 0 → b = r) ∧ Inv (n + 1) (if gxc r = 0 then upd2 s1 51 0 r else s1) m1
def gSim_move (Inv : Nat → S2 → S2 → Prop) : Prop := ∀ (n : Nat) (σ μ : S2) (a_space a_from a_count a_to : Int), Inv n σ μ → n < 512 → (-2147483648 ≤ a_space ∧ a_space ≤ 2147483647) → (-2147483648 ≤ a_from ∧ a_from ≤ 2147483647) → (-2147483648 ≤ a_count ∧ a_count ≤ 2147483647) → (-2147483648 ≤ a_to ∧ a_to ≤ 2147483647) → ∃ (r : Int) (s1 : S2) (b : Int) (m1 : S2), FX7_move a_space a_from a_count a_to σ = some (r, s1) ∧ FX8_move a_space a_from a_count a_to μ = some (b, m1) ∧ (gxc r = 0 ∨ gxc r = 1 ∨ gxc r = 2 ∨ gxc r = 3) ∧ m1 101 0 = (if gxc r = 0 then 0 else if gxc r = 1 then 1 else if gxc r = 2 then 2 else 3 : Int) ∧ (gxc r = 0 → b = r) ∧ Inv (n + 1) (if gxc r = 0 then upd2 s1 51 0 r else s1) m1
def gSim_fork (Inv : Nat → S2 → S2 → Prop) : Prop := ∀ (n : Nat) (σ μ : S2) (a_space : Int), Inv n σ μ → n < 512 → (-2147483648 ≤ a_space ∧ a_space ≤ 2147483647) → ∃ (r : Int) (s1 : S2) (b : Int) (m1 : S2), FX7_fork a_space σ = some (r, s1) ∧ FX8_fork a_space μ = some (b, m1) ∧ (gxc r = 0 ∨ gxc r = 1 ∨ gxc r = 3) ∧ m1 101 0 = (if gxc r = 0 then 0 else if gxc r = 1 then 1 else 2 : Int) ∧ (gxc r = 0 → b = r) ∧ Inv (n + 1) (if gxc r = 0 then upd2 s1 51 0 r else s1) m1
def gSim_end (Inv : Nat → S2 → S2 → Prop) : Prop := ∀ (n : Nat) (σ μ : S2) (a_space : Int), Inv n σ μ → n < 512 → (-2147483648 ≤ a_space ∧ a_space ≤ 2147483647) → ∃ (r : Int) (s1 : S2) (b : Int) (m1 : S2), FX7_end a_space σ = some (r, s1) ∧ FX8_end a_space μ = some (b, m1) ∧ (gxc r = 0 ∨ gxc r = 1 ∨ gxc r = 3) ∧ m1 101 0 = (if gxc r = 0 then 0 else if gxc r = 1 then 1 else 2 : Int) ∧ (gxc r = 0 → b = r) ∧ Inv (n + 1) (if gxc r = 0 then upd2 s1 51 0 r else s1) m1
def gSim_adjust (Inv : Nat → S2 → S2 → Prop) : Prop := ∀ (n : Nat) (σ μ : S2) (a_space a_by : Int), Inv n σ μ → n < 512 → (-2147483648 ≤ a_space ∧ a_space ≤ 2147483647) → (-2147483648 ≤ a_by ∧ a_by ≤ 2147483647) → ∃ (r : Int) (s1 : S2) (b : Int) (m1 : S2), FX7_adjust a_space a_by σ = some (r, s1) ∧ FX8_adjust a_space a_by μ = some (b, m1) ∧ (gxc r = 0 ∨ gxc r = 1 ∨ gxc r = 2) ∧ m1 101 0 = (if gxc r = 0 then 0 else if gxc r = 1 then 1 else 2 : Int) ∧ (gxc r = 0 → b = r) ∧ Inv (n + 1) (if gxc r = 0 then upd2 s1 51 0 r else s1) m1
def gSim_limit (Inv : Nat → S2 → S2 → Prop) : Prop := ∀ (n : Nat) (σ μ : S2) (a_group a_pages : Int), Inv n σ μ → n < 512 → (-2147483648 ≤ a_group ∧ a_group ≤ 2147483647) → (-2147483648 ≤ a_pages ∧ a_pages ≤ 2147483647) → ∃ (r : Int) (s1 : S2) (b : Int) (m1 : S2), FX7_limit a_group a_pages σ = some (r, s1) ∧ FX8_limit a_group a_pages μ = some (b, m1) ∧ (gxc r = 0 ∨ gxc r = 2) ∧ m1 101 0 = (if gxc r = 0 then 0 else 1 : Int) ∧ (gxc r = 0 → b = r) ∧ Inv (n + 1) (if gxc r = 0 then upd2 s1 51 0 r else s1) m1
def gSim_load (Inv : Nat → S2 → S2 → Prop) : Prop := ∀ (n : Nat) (σ μ : S2) (a_processor a_space a_address : Int), Inv n σ μ → n < 512 → (-2147483648 ≤ a_processor ∧ a_processor ≤ 2147483647) → (-2147483648 ≤ a_space ∧ a_space ≤ 2147483647) → (-2147483648 ≤ a_address ∧ a_address ≤ 2147483647) → ∃ (r : Int) (s1 : S2) (b : Int) (m1 : S2), FX7_load a_processor a_space a_address σ = some (r, s1) ∧ FX8_load a_processor a_space a_address μ = some (b, m1) ∧ (gxc r = 0 ∨ gxc r = 1 ∨ gxc r = 2 ∨ gxc r = 3) ∧ m1 101 0 = (if gxc r = 0 then 0 else if gxc r = 1 then 1 else if gxc r = 2 then 2 else 3 : Int) ∧ (gxc r = 0 → b = r) ∧ Inv (n + 1) (if gxc r = 0 then upd2 s1 51 0 r else s1) m1
def gSim_store (Inv : Nat → S2 → S2 → Prop) : Prop := ∀ (n : Nat) (σ μ : S2) (a_processor a_space a_address a_value : Int), Inv n σ μ → n < 512 → (-2147483648 ≤ a_processor ∧ a_processor ≤ 2147483647) → (-2147483648 ≤ a_space ∧ a_space ≤ 2147483647) → (-2147483648 ≤ a_address ∧ a_address ≤ 2147483647) → (-2147483648 ≤ a_value ∧ a_value ≤ 2147483647) → ∃ (r : Int) (s1 : S2) (b : Int) (m1 : S2), FX7_store a_processor a_space a_address a_value σ = some (r, s1) ∧ FX8_store a_processor a_space a_address a_value μ = some (b, m1) ∧ (gxc r = 0 ∨ gxc r = 1 ∨ gxc r = 2 ∨ gxc r = 3) ∧ m1 101 0 = (if gxc r = 0 then 0 else if gxc r = 1 then 1 else if gxc r = 2 then 2 else 3 : Int) ∧ (gxc r = 0 → b = r) ∧ Inv (n + 1) (if gxc r = 0 then upd2 s1 51 0 r else s1) m1
def gSim_read (Inv : Nat → S2 → S2 → Prop) : Prop := ∀ (n : Nat) (σ μ : S2) (a_file a_index : Int), Inv n σ μ → n < 512 → (-2147483648 ≤ a_file ∧ a_file ≤ 2147483647) → (-2147483648 ≤ a_index ∧ a_index ≤ 2147483647) → ∃ (r : Int) (s1 : S2) (b : Int) (m1 : S2), FX7_read a_file a_index σ = some (r, s1) ∧ FX8_read a_file a_index μ = some (b, m1) ∧ (gxc r = 0 ∨ gxc r = 2) ∧ m1 101 0 = (if gxc r = 0 then 0 else 1 : Int) ∧ (gxc r = 0 → b = r) ∧ Inv (n + 1) (if gxc r = 0 then upd2 s1 51 0 r else s1) m1
def gSim_write (Inv : Nat → S2 → S2 → Prop) : Prop := ∀ (n : Nat) (σ μ : S2) (a_file a_index a_value : Int), Inv n σ μ → n < 512 → (-2147483648 ≤ a_file ∧ a_file ≤ 2147483647) → (-2147483648 ≤ a_index ∧ a_index ≤ 2147483647) → (-2147483648 ≤ a_value ∧ a_value ≤ 2147483647) → ∃ (r : Int) (s1 : S2) (b : Int) (m1 : S2), FX7_write a_file a_index a_value σ = some (r, s1) ∧ FX8_write a_file a_index a_value μ = some (b, m1) ∧ (gxc r = 0 ∨ gxc r = 2) ∧ m1 101 0 = (if gxc r = 0 then 0 else 1 : Int) ∧ (gxc r = 0 → b = r) ∧ Inv (n + 1) (if gxc r = 0 then upd2 s1 51 0 r else s1) m1
def gSim_sync (Inv : Nat → S2 → S2 → Prop) : Prop := ∀ (n : Nat) (σ μ : S2) (a_file : Int), Inv n σ μ → n < 512 → (-2147483648 ≤ a_file ∧ a_file ≤ 2147483647) → ∃ (r : Int) (s1 : S2) (b : Int) (m1 : S2), FX7_sync a_file σ = some (r, s1) ∧ FX8_sync a_file μ = some (b, m1) ∧ (gxc r = 0 ∨ gxc r = 2) ∧ m1 101 0 = (if gxc r = 0 then 0 else 1 : Int) ∧ (gxc r = 0 → b = r) ∧ Inv (n + 1) (if gxc r = 0 then upd2 s1 51 0 r else s1) m1
def gSim_disk (Inv : Nat → S2 → S2 → Prop) : Prop := ∀ (n : Nat) (σ μ : S2) (a_file a_index : Int), Inv n σ μ → n < 512 → (-2147483648 ≤ a_file ∧ a_file ≤ 2147483647) → (-2147483648 ≤ a_index ∧ a_index ≤ 2147483647) → ∃ (r : Int) (s1 : S2) (b : Int) (m1 : S2), FX7_disk a_file a_index σ = some (r, s1) ∧ FX8_disk a_file a_index μ = some (b, m1) ∧ (gxc r = 0 ∨ gxc r = 2) ∧ m1 101 0 = (if gxc r = 0 then 0 else 1 : Int) ∧ (gxc r = 0 → b = r) ∧ Inv (n + 1) (if gxc r = 0 then upd2 s1 51 0 r else s1) m1
def gSim_reclaim (Inv : Nat → S2 → S2 → Prop) : Prop := ∀ (n : Nat) (σ μ : S2) (a_pages : Int), Inv n σ μ → n < 512 → (-2147483648 ≤ a_pages ∧ a_pages ≤ 2147483647) → ∃ (r : Int) (s1 : S2) (b : Int) (m1 : S2), FX7_reclaim a_pages σ = some (r, s1) ∧ FX8_reclaim a_pages μ = some (b, m1) ∧ (gxc r = 0 ∨ gxc r = 2) ∧ m1 101 0 = (if gxc r = 0 then 0 else 1 : Int) ∧ (gxc r = 0 → b = r) ∧ Inv (n + 1) (if gxc r = 0 then upd2 s1 51 0 r else s1) m1
def gSim_handle (Inv : Nat → S2 → S2 → Prop) : Prop := ∀ (n : Nat) (σ μ : S2) (a_processor : Int), Inv n σ μ → n < 512 → (-2147483648 ≤ a_processor ∧ a_processor ≤ 2147483647) → ∃ (r : Int) (s1 : S2) (b : Int) (m1 : S2), FX7_handle a_processor σ = some (r, s1) ∧ FX8_handle a_processor μ = some (b, m1) ∧ (gxc r = 0 ∨ gxc r = 1) ∧ m1 101 0 = (if gxc r = 0 then 0 else 1 : Int) ∧ (gxc r = 0 → b = r) ∧ Inv (n + 1) (if gxc r = 0 then upd2 s1 51 0 r else s1) m1
def gSim_join (Inv : Nat → S2 → S2 → Prop) : Prop := ∀ (n : Nat) (σ μ : S2) (a_space a_address : Int), Inv n σ μ → n < 512 → (-2147483648 ≤ a_space ∧ a_space ≤ 2147483647) → (-2147483648 ≤ a_address ∧ a_address ≤ 2147483647) → ∃ (r : Int) (s1 : S2) (b : Int) (m1 : S2), FX7_join a_space a_address σ = some (r, s1) ∧ FX8_join a_space a_address μ = some (b, m1) ∧ (gxc r = 0 ∨ gxc r = 1 ∨ gxc r = 2 ∨ gxc r = 3) ∧ m1 101 0 = (if gxc r = 0 then 0 else if gxc r = 1 then 1 else if gxc r = 2 then 2 else 3 : Int) ∧ (gxc r = 0 → b = r) ∧ Inv (n + 1) (if gxc r = 0 then upd2 s1 51 0 r else s1) m1
def gSim_merge (Inv : Nat → S2 → S2 → Prop) : Prop := ∀ (n : Nat) (σ μ : S2) (a_space a_is : Int), Inv n σ μ → n < 512 → (-2147483648 ≤ a_space ∧ a_space ≤ 2147483647) → (0 ≤ a_is ∧ a_is ≤ 1) → ∃ (r : Int) (s1 : S2) (b : Int) (m1 : S2), FX7_merge a_space a_is σ = some (r, s1) ∧ FX8_merge a_space a_is μ = some (b, m1) ∧ (gxc r = 0 ∨ gxc r = 1) ∧ m1 101 0 = (if gxc r = 0 then 0 else 1 : Int) ∧ Inv (n + 1) s1 m1
def gSim_scan (Inv : Nat → S2 → S2 → Prop) : Prop := ∀ (n : Nat) (σ μ : S2) (a_addresses : Int), Inv n σ μ → n < 512 → (-2147483648 ≤ a_addresses ∧ a_addresses ≤ 2147483647) → ∃ (r : Int) (s1 : S2) (b : Int) (m1 : S2), FX7_scan a_addresses σ = some (r, s1) ∧ FX8_scan a_addresses μ = some (b, m1) ∧ (gxc r = 0 ∨ gxc r = 2) ∧ m1 101 0 = (if gxc r = 0 then 0 else 1 : Int) ∧ (gxc r = 0 → b = r) ∧ Inv (n + 1) (if gxc r = 0 then upd2 s1 51 0 r else s1) m1
def gSim_entry (Inv : Nat → S2 → S2 → Prop) : Prop := ∀ (n : Nat) (σ μ : S2) (a_space a_address a_what : Int), Inv n σ μ → n < 512 → (-2147483648 ≤ a_space ∧ a_space ≤ 2147483647) → (-2147483648 ≤ a_address ∧ a_address ≤ 2147483647) → (-2147483648 ≤ a_what ∧ a_what ≤ 2147483647) → ∃ (r : Int) (s1 : S2) (b : Int) (m1 : S2), FX7_entry a_space a_address a_what σ = some (r, s1) ∧ FX8_entry a_space a_address a_what μ = some (b, m1) ∧ (gxc r = 0 ∨ gxc r = 1 ∨ gxc r = 2) ∧ m1 101 0 = (if gxc r = 0 then 0 else if gxc r = 1 then 1 else 2 : Int) ∧ (gxc r = 0 → b = r) ∧ Inv (n + 1) (if gxc r = 0 then upd2 s1 51 0 r else s1) m1
def gSim_frame (Inv : Nat → S2 → S2 → Prop) : Prop := ∀ (n : Nat) (σ μ : S2) (a_frame a_what : Int), Inv n σ μ → n < 512 → (-2147483648 ≤ a_frame ∧ a_frame ≤ 2147483647) → (-2147483648 ≤ a_what ∧ a_what ≤ 2147483647) → ∃ (r : Int) (s1 : S2) (b : Int) (m1 : S2), FX7_frame a_frame a_what σ = some (r, s1) ∧ FX8_frame a_frame a_what μ = some (b, m1) ∧ (gxc r = 0 ∨ gxc r = 2) ∧ m1 101 0 = (if gxc r = 0 then 0 else 1 : Int) ∧ (gxc r = 0 → b = r) ∧ Inv (n + 1) (if gxc r = 0 then upd2 s1 51 0 r else s1) m1
def gSim_list (Inv : Nat → S2 → S2 → Prop) : Prop := ∀ (n : Nat) (σ μ : S2) (a_list a_place : Int), Inv n σ μ → n < 512 → (-2147483648 ≤ a_list ∧ a_list ≤ 2147483647) → (-2147483648 ≤ a_place ∧ a_place ≤ 2147483647) → ∃ (r : Int) (s1 : S2) (b : Int) (m1 : S2), FX7_list a_list a_place σ = some (r, s1) ∧ FX8_list a_list a_place μ = some (b, m1) ∧ (gxc r = 0 ∨ gxc r = 2) ∧ m1 101 0 = (if gxc r = 0 then 0 else 1 : Int) ∧ (gxc r = 0 → b = r) ∧ Inv (n + 1) (if gxc r = 0 then upd2 s1 51 0 r else s1) m1
def gSim_about (Inv : Nat → S2 → S2 → Prop) : Prop := ∀ (n : Nat) (σ μ : S2) (a_space a_what : Int), Inv n σ μ → n < 512 → (-2147483648 ≤ a_space ∧ a_space ≤ 2147483647) → (-2147483648 ≤ a_what ∧ a_what ≤ 2147483647) → ∃ (r : Int) (s1 : S2) (b : Int) (m1 : S2), FX7_about a_space a_what σ = some (r, s1) ∧ FX8_about a_space a_what μ = some (b, m1) ∧ (gxc r = 0 ∨ gxc r = 1 ∨ gxc r = 2) ∧ m1 101 0 = (if gxc r = 0 then 0 else if gxc r = 1 then 1 else 2 : Int) ∧ (gxc r = 0 → b = r) ∧ Inv (n + 1) (if gxc r = 0 then upd2 s1 51 0 r else s1) m1
def gSim_count (Inv : Nat → S2 → S2 → Prop) : Prop := ∀ (n : Nat) (σ μ : S2) (a_what : Int), Inv n σ μ → n < 512 → (-2147483648 ≤ a_what ∧ a_what ≤ 2147483647) → ∃ (r : Int) (s1 : S2) (b : Int) (m1 : S2), FX7_count a_what σ = some (r, s1) ∧ FX8_count a_what μ = some (b, m1) ∧ (gxc r = 0 ∨ gxc r = 2) ∧ m1 101 0 = (if gxc r = 0 then 0 else 1 : Int) ∧ (gxc r = 0 → b = r) ∧ Inv (n + 1) (if gxc r = 0 then upd2 s1 51 0 r else s1) m1
set_option maxRecDepth 100000 in
set_option maxHeartbeats 4000000 in
theorem lc_space {X : gX} {l : Launch} {w : gW} {bs : Nat} (hl : l.stackTraces = false) (h : gOk X "PagewrightLaw" cL_law 7 14 601024 7293033) (hE : gAtX X l w bs) {Ln : Nat} {xs : Nat → Int32} (hX : gScr X Ln xs) (hL9 : Ln ≤ 4608) {Inv : Nat → S2 → S2 → Prop} (HS : gSim_space Inv) (j : Nat) (hj : j < 512) {i : Int} (hi : 0 ≤ i ∧ i + 9 ≤ Ln) (σ μ : S2) (hInv : Inv j σ μ) (JE : ∀ (σ1 μ1 : S2) (z5 z6 : Int), Inv (j + 1) σ1 μ1 → G X (1000 + 8 * (j + 1)) (20000 + 48 * (j + 1)) 1986 [(61, 0), (10, 0), (11, 0), (60, 0), (0, i), (0, z5), (0, z6)] [] (σ1, μ1)) : G X (1000 + 8 * j) (20000 + 48 * j) 156 [(61, 0), (10, 0), (11, 0), (60, 0), (0, i), (1, 0), (1, 0)] [] (σ, μ) := by
  have r1 : -2147483648 ≤ (xs (i + 1).toNat).toInt ∧ (xs (i + 1).toNat).toInt ≤ 2147483647 := gR_toInt _
  obtain ⟨r, s1, b, m1, hF, hG, hx, ht, hb9, hI⟩ := HS j σ μ ((xs (i + 1).toNat).toInt) hInv hj r1
  have hk : 0 ≤ (if gxc r = 0 then 0 else if gxc r = 2 then 1 else 2 : Int) ∧ (if gxc r = 0 then 0 else if gxc r = 2 then 1 else 2 : Int) ≤ 3 := by rcases hx with hx | hx | hx <;> rw [hx] <;> decide
  refine g_aload_nq h 156 dL_law_156 rfl rfl ?_
  refine g_aload_nq h 157 dL_law_157 rfl rfl ?_
  refine g_iload h 158 dL_law_158 rfl ?_
  refine g_iconst h 160 dL_law_160 ?_
  refine g_iadd h 161 dL_law_161 ?_
  refine g_scrld h 162 dL_law_162 hX (by omega) hL9 ?_
  refine g_aload_nq h 163 dL_law_163 rfl rfl ?_
  refine g_callSH (n := 3) h hE 164 dL_law_164 (cw_space hl hF hx) kw_403 kw_100 kw_402 ⟨by decide, by decide, by decide +kernel⟩ (Nat.le_of_ble_eq_true rfl) kw_401 (Nat.le_of_ble_eq_true rfl) rfl (Nat.le_of_ble_eq_true rfl) ⟨by omega, by omega⟩ rfl rfl ?_
  show G X (1000 + 8 * j + 2) (20000 + 48 * j + 6 * 2) 167 [(61, 0), (10, 0), (11, 0), (60, 0), (0, i), (1, 0), (1, 0)] [(0, (if gxc r = 0 then 0 else if gxc r = 2 then 1 else 2 : Int))] ((if gxc r = 0 then upd2 s1 51 0 r else s1), μ)
  refine g_istore h 167 dL_law_167 (Nat.le_of_ble_eq_true rfl) rfl (L' := [(61, 0), (10, 0), (11, 0), (60, 0), (0, i), (0, (if gxc r = 0 then 0 else if gxc r = 2 then 1 else 2 : Int)), (1, 0)]) rfl ?_
  refine g_aload_nq h 169 dL_law_169 rfl rfl ?_
  refine g_aload_nq h 170 dL_law_170 rfl rfl ?_
  refine g_iload h 171 dL_law_171 rfl ?_
  refine g_iconst h 173 dL_law_173 ?_
  refine g_iadd h 174 dL_law_174 ?_
  refine g_scrld h 175 dL_law_175 hX (by omega) hL9 ?_
  refine g_callV0 h hE 176 dL_law_176 (ctX8_space hl hG) mwX8_space kw_1138 (by decide) (by decide) rfl (Nat.le_of_ble_eq_true rfl) rfl (Nat.le_of_ble_eq_true rfl) ⟨by omega, by omega⟩ rfl rfl ?_
  show G X (1000 + 8 * j + 2) (20000 + 48 * j + 6 * 2) 179 [(61, 0), (10, 0), (11, 0), (60, 0), (0, i), (0, (if gxc r = 0 then 0 else if gxc r = 2 then 1 else 2 : Int)), (1, 0)] [(0, b)] ((if gxc r = 0 then upd2 s1 51 0 r else s1), m1)
  refine g_istore h 179 dL_law_179 (Nat.le_of_ble_eq_true rfl) rfl (L' := [(61, 0), (10, 0), (11, 0), (60, 0), (0, i), (0, (if gxc r = 0 then 0 else if gxc r = 2 then 1 else 2 : Int)), (0, b)]) rfl ?_
  refine g_aload_nq h 181 dL_law_181 rfl rfl ?_
  refine g_callV0 h hE 182 dL_law_182 (cpX8_thrown hl) mwX8_thrown kw_1134 (by decide) (by decide) rfl (Nat.le_of_ble_eq_true rfl) rfl (Nat.le_of_ble_eq_true rfl) ⟨by omega, by omega⟩ rfl rfl ?_
  show G X (1000 + 8 * j + 2) (20000 + 48 * j + 6 * 2) 185 [(61, 0), (10, 0), (11, 0), (60, 0), (0, i), (0, (if gxc r = 0 then 0 else if gxc r = 2 then 1 else 2 : Int)), (0, b)] [(0, m1 101 0)] ((if gxc r = 0 then upd2 s1 51 0 r else s1), m1)
  refine g_iload h 185 dL_law_185 rfl ?_
  refine g_icmp_eq h 187 192 (gRi (by omega)) (gRi (by omega)) dL_law_187 (by decide) (fun _ => ?_) (fun q => absurd ht q)
  refine g_iload h 192 dL_law_192 rfl ?_
  refine g_if_ne h 194 209 (gRi (by omega)) dL_law_194 (by decide) (fun _ => ?_) (fun hk0 => ?_)
  · refine g_goto h 209 1986 dL_law_209 (by decide) ?_
    exact G_widen (by omega) (by omega) (JE _ _ _ _ hI)
  have hx0 : gxc r = 0 := by
    rcases hx with hx | hx | hx
    · exact hx
    · rw [hx] at hk0; exact absurd hk0 (by decide)
    · rw [hx] at hk0; exact absurd hk0 (by decide)
  have hbr := hb9 hx0
  have hr := (rgX7_space hF).resolve_left (fun q => q hx0)
  have hov : (if gxc r = 0 then upd2 s1 51 0 r else s1) 51 0 = r := by rw [if_pos hx0]; exact upd2_s
  subst hbr
  refine g_aload_nq h 197 dL_law_197 rfl rfl ?_
  refine g_iconst h 198 dL_law_198 ?_
  refine al_out h 199 dL_law_199 (by decide) ?_
  rw [hov]
  refine g_iload h 200 dL_law_200 rfl ?_
  refine g_i2l h 202 dL_law_202 (gRi hr) ?_
  refine g_lcmp h 203 dL_law_203 (gRi hr) (gRi hr) ?_
  rw [if_neg (Int.lt_irrefl _), if_pos rfl]
  refine g_if_eq h 204 209 gR_0 dL_law_204 (by decide) (fun _ => ?_) (fun q => absurd rfl q)
  refine g_goto h 209 1986 dL_law_209 (by decide) ?_
  exact G_widen (by omega) (by omega) (JE _ _ _ _ hI)
set_option maxRecDepth 100000 in
set_option maxHeartbeats 4000000 in
theorem lc_map {X : gX} {l : Launch} {w : gW} {bs : Nat} (hl : l.stackTraces = false) (h : gOk X "PagewrightLaw" cL_law 7 14 601024 7293033) (hE : gAtX X l w bs) {Ln : Nat} {xs : Nat → Int32} (hX : gScr X Ln xs) (hL9 : Ln ≤ 4608) {Inv : Nat → S2 → S2 → Prop} (HS : gSim_map Inv) (j : Nat) (hj : j < 512) {i : Int} (hi : 0 ≤ i ∧ i + 9 ≤ Ln) (σ μ : S2) (hInv : Inv j σ μ) (JE : ∀ (σ1 μ1 : S2) (z5 z6 : Int), Inv (j + 1) σ1 μ1 → G X (1000 + 8 * (j + 1)) (20000 + 48 * (j + 1)) 1986 [(61, 0), (10, 0), (11, 0), (60, 0), (0, i), (0, z5), (0, z6)] [] (σ1, μ1)) : G X (1000 + 8 * j) (20000 + 48 * j) 212 [(61, 0), (10, 0), (11, 0), (60, 0), (0, i), (1, 0), (1, 0)] [] (σ, μ) := by
  have r1 : -2147483648 ≤ (xs (i + 1).toNat).toInt ∧ (xs (i + 1).toNat).toInt ≤ 2147483647 := gR_toInt _
  have r2 : -2147483648 ≤ (xs (i + 2).toNat).toInt ∧ (xs (i + 2).toNat).toInt ≤ 2147483647 := gR_toInt _
  have r3 : -2147483648 ≤ (xs (i + 3).toNat).toInt ∧ (xs (i + 3).toNat).toInt ≤ 2147483647 := gR_toInt _
  have r4 : -2147483648 ≤ (xs (i + 4).toNat).toInt ∧ (xs (i + 4).toNat).toInt ≤ 2147483647 := gR_toInt _
  have r5 : -2147483648 ≤ (xs (i + 5).toNat).toInt ∧ (xs (i + 5).toNat).toInt ≤ 2147483647 := gR_toInt _
  have r6 : -2147483648 ≤ (xs (i + 6).toNat).toInt ∧ (xs (i + 6).toNat).toInt ≤ 2147483647 := gR_toInt _
  have r7 : -2147483648 ≤ (xs (i + 7).toNat).toInt ∧ (xs (i + 7).toNat).toInt ≤ 2147483647 := gR_toInt _
  have b7 : 0 ≤ (if (xs (i + 7).toNat).toInt ≠ 0 then 1 else 0 : Int) ∧ (if (xs (i + 7).toNat).toInt ≠ 0 then 1 else 0 : Int) ≤ 1 := by split <;> decide
  have r8 : -2147483648 ≤ (xs (i + 8).toNat).toInt ∧ (xs (i + 8).toNat).toInt ≤ 2147483647 := gR_toInt _
  have b8 : 0 ≤ (if (xs (i + 8).toNat).toInt ≠ 0 then 1 else 0 : Int) ∧ (if (xs (i + 8).toNat).toInt ≠ 0 then 1 else 0 : Int) ≤ 1 := by split <;> decide
  obtain ⟨r, s1, b, m1, hF, hG, hx, ht, hb9, hI⟩ := HS j σ μ ((xs (i + 1).toNat).toInt) ((xs (i + 2).toNat).toInt) ((xs (i + 3).toNat).toInt) ((xs (i + 4).toNat).toInt) ((xs (i + 5).toNat).toInt) ((xs (i + 6).toNat).toInt) ((if (xs (i + 7).toNat).toInt ≠ 0 then 1 else 0 : Int)) ((if (xs (i + 8).toNat).toInt ≠ 0 then 1 else 0 : Int)) hInv hj r1 r2 r3 r4 r5 r6 b7 b8
  have hk : 0 ≤ (if gxc r = 0 then 0 else if gxc r = 1 then 1 else if gxc r = 2 then 2 else 3 : Int) ∧ (if gxc r = 0 then 0 else if gxc r = 1 then 1 else if gxc r = 2 then 2 else 3 : Int) ≤ 3 := by rcases hx with hx | hx | hx | hx <;> rw [hx] <;> decide
  refine g_aload_nq h 212 dL_law_212 rfl rfl ?_
  refine g_aload_nq h 213 dL_law_213 rfl rfl ?_
  refine g_iload h 214 dL_law_214 rfl ?_
  refine g_iconst h 216 dL_law_216 ?_
  refine g_iadd h 217 dL_law_217 ?_
  refine g_scrld h 218 dL_law_218 hX (by omega) hL9 ?_
  refine g_aload_nq h 219 dL_law_219 rfl rfl ?_
  refine g_iload h 220 dL_law_220 rfl ?_
  refine g_iconst h 222 dL_law_222 ?_
  refine g_iadd h 223 dL_law_223 ?_
  refine g_scrld h 224 dL_law_224 hX (by omega) hL9 ?_
  refine g_aload_nq h 225 dL_law_225 rfl rfl ?_
  refine g_iload h 226 dL_law_226 rfl ?_
  refine g_iconst h 228 dL_law_228 ?_
  refine g_iadd h 229 dL_law_229 ?_
  refine g_scrld h 230 dL_law_230 hX (by omega) hL9 ?_
  refine g_aload_nq h 231 dL_law_231 rfl rfl ?_
  refine g_iload h 232 dL_law_232 rfl ?_
  refine g_iconst h 234 dL_law_234 ?_
  refine g_iadd h 235 dL_law_235 ?_
  refine g_scrld h 236 dL_law_236 hX (by omega) hL9 ?_
  refine g_aload_nq h 237 dL_law_237 rfl rfl ?_
  refine g_iload h 238 dL_law_238 rfl ?_
  refine g_iconst h 240 dL_law_240 ?_
  refine g_iadd h 241 dL_law_241 ?_
  refine g_scrld h 242 dL_law_242 hX (by omega) hL9 ?_
  refine g_aload_nq h 243 dL_law_243 rfl rfl ?_
  refine g_iload h 244 dL_law_244 rfl ?_
  refine g_bipush h 246 dL_law_246 (by decide) ?_
  refine g_iadd h 248 dL_law_248 ?_
  refine g_scrld h 249 dL_law_249 hX (by omega) hL9 ?_
  refine g_aload_nq h 250 dL_law_250 rfl rfl ?_
  refine g_iload h 251 dL_law_251 rfl ?_
  refine g_bipush h 253 dL_law_253 (by decide) ?_
  refine g_iadd h 255 dL_law_255 ?_
  refine g_scrld h 256 dL_law_256 hX (by omega) hL9 ?_
  suffices J256_7 : ∀ vv : Int, vv = (if (xs (i + 7).toNat).toInt ≠ 0 then 1 else 0 : Int) → G X (1000 + 8 * j) (20000 + 48 * j) 265 [(61, 0), (10, 0), (11, 0), (60, 0), (0, i), (1, 0), (1, 0)] [(0, vv), (0, (xs (i + 6).toNat).toInt), (0, (xs (i + 5).toNat).toInt), (0, (xs (i + 4).toNat).toInt), (0, (xs (i + 3).toNat).toInt), (0, (xs (i + 2).toNat).toInt), (0, (xs (i + 1).toNat).toInt), (10, 0)] (σ, μ) by
    refine g_if_eq h 257 264 (gRi r7) dL_law_257 (by decide) (fun hz => ?_) (fun hz => ?_)
    · refine g_iconst h 264 dL_law_264 ?_
      exact J256_7 _ (if_neg (fun q => q hz)).symm
    · refine g_iconst h 260 dL_law_260 ?_
      refine g_goto h 261 265 dL_law_261 (by decide) ?_
      exact J256_7 _ (if_pos hz).symm
  intro vv hvv
  subst hvv
  refine g_aload_nq h 265 dL_law_265 rfl rfl ?_
  refine g_iload h 266 dL_law_266 rfl ?_
  refine g_bipush h 268 dL_law_268 (by decide) ?_
  refine g_iadd h 270 dL_law_270 ?_
  refine g_scrld h 271 dL_law_271 hX (by omega) hL9 ?_
  suffices J271_8 : ∀ vv : Int, vv = (if (xs (i + 8).toNat).toInt ≠ 0 then 1 else 0 : Int) → G X (1000 + 8 * j) (20000 + 48 * j) 280 [(61, 0), (10, 0), (11, 0), (60, 0), (0, i), (1, 0), (1, 0)] [(0, vv), (0, (if (xs (i + 7).toNat).toInt ≠ 0 then 1 else 0 : Int)), (0, (xs (i + 6).toNat).toInt), (0, (xs (i + 5).toNat).toInt), (0, (xs (i + 4).toNat).toInt), (0, (xs (i + 3).toNat).toInt), (0, (xs (i + 2).toNat).toInt), (0, (xs (i + 1).toNat).toInt), (10, 0)] (σ, μ) by
    refine g_if_eq h 272 279 (gRi r8) dL_law_272 (by decide) (fun hz => ?_) (fun hz => ?_)
    · refine g_iconst h 279 dL_law_279 ?_
      exact J271_8 _ (if_neg (fun q => q hz)).symm
    · refine g_iconst h 275 dL_law_275 ?_
      refine g_goto h 276 280 dL_law_276 (by decide) ?_
      exact J271_8 _ (if_pos hz).symm
  intro vv hvv
  subst hvv
  refine g_aload_nq h 280 dL_law_280 rfl rfl ?_
  refine g_callSH (n := 10) h hE 281 dL_law_281 (cw_map hl hF hx) kw_509 kw_100 kw_508 ⟨by decide, by decide, by decide +kernel⟩ (Nat.le_of_ble_eq_true rfl) kw_507 (Nat.le_of_ble_eq_true rfl) rfl (Nat.le_of_ble_eq_true rfl) ⟨by omega, by omega⟩ rfl rfl ?_
  show G X (1000 + 8 * j + 4) (20000 + 48 * j + 6 * 4) 284 [(61, 0), (10, 0), (11, 0), (60, 0), (0, i), (1, 0), (1, 0)] [(0, (if gxc r = 0 then 0 else if gxc r = 1 then 1 else if gxc r = 2 then 2 else 3 : Int))] ((if gxc r = 0 then upd2 s1 51 0 r else s1), μ)
  refine g_istore h 284 dL_law_284 (Nat.le_of_ble_eq_true rfl) rfl (L' := [(61, 0), (10, 0), (11, 0), (60, 0), (0, i), (0, (if gxc r = 0 then 0 else if gxc r = 1 then 1 else if gxc r = 2 then 2 else 3 : Int)), (1, 0)]) rfl ?_
  refine g_aload_nq h 286 dL_law_286 rfl rfl ?_
  refine g_aload_nq h 287 dL_law_287 rfl rfl ?_
  refine g_iload h 288 dL_law_288 rfl ?_
  refine g_iconst h 290 dL_law_290 ?_
  refine g_iadd h 291 dL_law_291 ?_
  refine g_scrld h 292 dL_law_292 hX (by omega) hL9 ?_
  refine g_aload_nq h 293 dL_law_293 rfl rfl ?_
  refine g_iload h 294 dL_law_294 rfl ?_
  refine g_iconst h 296 dL_law_296 ?_
  refine g_iadd h 297 dL_law_297 ?_
  refine g_scrld h 298 dL_law_298 hX (by omega) hL9 ?_
  refine g_aload_nq h 299 dL_law_299 rfl rfl ?_
  refine g_iload h 300 dL_law_300 rfl ?_
  refine g_iconst h 302 dL_law_302 ?_
  refine g_iadd h 303 dL_law_303 ?_
  refine g_scrld h 304 dL_law_304 hX (by omega) hL9 ?_
  refine g_aload_nq h 305 dL_law_305 rfl rfl ?_
  refine g_iload h 306 dL_law_306 rfl ?_
  refine g_iconst h 308 dL_law_308 ?_
  refine g_iadd h 309 dL_law_309 ?_
  refine g_scrld h 310 dL_law_310 hX (by omega) hL9 ?_
  refine g_aload_nq h 311 dL_law_311 rfl rfl ?_
  refine g_iload h 312 dL_law_312 rfl ?_
  refine g_iconst h 314 dL_law_314 ?_
  refine g_iadd h 315 dL_law_315 ?_
  refine g_scrld h 316 dL_law_316 hX (by omega) hL9 ?_
  refine g_aload_nq h 317 dL_law_317 rfl rfl ?_
  refine g_iload h 318 dL_law_318 rfl ?_
  refine g_bipush h 320 dL_law_320 (by decide) ?_
  refine g_iadd h 322 dL_law_322 ?_
  refine g_scrld h 323 dL_law_323 hX (by omega) hL9 ?_
  refine g_aload_nq h 324 dL_law_324 rfl rfl ?_
  refine g_iload h 325 dL_law_325 rfl ?_
  refine g_bipush h 327 dL_law_327 (by decide) ?_
  refine g_iadd h 329 dL_law_329 ?_
  refine g_scrld h 330 dL_law_330 hX (by omega) hL9 ?_
  suffices J330_7 : ∀ vv : Int, vv = (if (xs (i + 7).toNat).toInt ≠ 0 then 1 else 0 : Int) → G X (1000 + 8 * j + 4) (20000 + 48 * j + 6 * 4) 339 [(61, 0), (10, 0), (11, 0), (60, 0), (0, i), (0, (if gxc r = 0 then 0 else if gxc r = 1 then 1 else if gxc r = 2 then 2 else 3 : Int)), (1, 0)] [(0, vv), (0, (xs (i + 6).toNat).toInt), (0, (xs (i + 5).toNat).toInt), (0, (xs (i + 4).toNat).toInt), (0, (xs (i + 3).toNat).toInt), (0, (xs (i + 2).toNat).toInt), (0, (xs (i + 1).toNat).toInt), (11, 0)] ((if gxc r = 0 then upd2 s1 51 0 r else s1), μ) by
    refine g_if_eq h 331 338 (gRi r7) dL_law_331 (by decide) (fun hz => ?_) (fun hz => ?_)
    · refine g_iconst h 338 dL_law_338 ?_
      exact J330_7 _ (if_neg (fun q => q hz)).symm
    · refine g_iconst h 334 dL_law_334 ?_
      refine g_goto h 335 339 dL_law_335 (by decide) ?_
      exact J330_7 _ (if_pos hz).symm
  intro vv hvv
  subst hvv
  refine g_aload_nq h 339 dL_law_339 rfl rfl ?_
  refine g_iload h 340 dL_law_340 rfl ?_
  refine g_bipush h 342 dL_law_342 (by decide) ?_
  refine g_iadd h 344 dL_law_344 ?_
  refine g_scrld h 345 dL_law_345 hX (by omega) hL9 ?_
  suffices J345_8 : ∀ vv : Int, vv = (if (xs (i + 8).toNat).toInt ≠ 0 then 1 else 0 : Int) → G X (1000 + 8 * j + 4) (20000 + 48 * j + 6 * 4) 354 [(61, 0), (10, 0), (11, 0), (60, 0), (0, i), (0, (if gxc r = 0 then 0 else if gxc r = 1 then 1 else if gxc r = 2 then 2 else 3 : Int)), (1, 0)] [(0, vv), (0, (if (xs (i + 7).toNat).toInt ≠ 0 then 1 else 0 : Int)), (0, (xs (i + 6).toNat).toInt), (0, (xs (i + 5).toNat).toInt), (0, (xs (i + 4).toNat).toInt), (0, (xs (i + 3).toNat).toInt), (0, (xs (i + 2).toNat).toInt), (0, (xs (i + 1).toNat).toInt), (11, 0)] ((if gxc r = 0 then upd2 s1 51 0 r else s1), μ) by
    refine g_if_eq h 346 353 (gRi r8) dL_law_346 (by decide) (fun hz => ?_) (fun hz => ?_)
    · refine g_iconst h 353 dL_law_353 ?_
      exact J345_8 _ (if_neg (fun q => q hz)).symm
    · refine g_iconst h 349 dL_law_349 ?_
      refine g_goto h 350 354 dL_law_350 (by decide) ?_
      exact J345_8 _ (if_pos hz).symm
  intro vv hvv
  subst hvv
  refine g_callV0 h hE 354 dL_law_354 (ctX8_map hl hG) mwX8_map kw_1149 (by decide) (by decide) rfl (Nat.le_of_ble_eq_true rfl) rfl (Nat.le_of_ble_eq_true rfl) ⟨by omega, by omega⟩ rfl rfl ?_
  show G X (1000 + 8 * j + 4) (20000 + 48 * j + 6 * 4) 357 [(61, 0), (10, 0), (11, 0), (60, 0), (0, i), (0, (if gxc r = 0 then 0 else if gxc r = 1 then 1 else if gxc r = 2 then 2 else 3 : Int)), (1, 0)] [(0, b)] ((if gxc r = 0 then upd2 s1 51 0 r else s1), m1)
  refine g_istore h 357 dL_law_357 (Nat.le_of_ble_eq_true rfl) rfl (L' := [(61, 0), (10, 0), (11, 0), (60, 0), (0, i), (0, (if gxc r = 0 then 0 else if gxc r = 1 then 1 else if gxc r = 2 then 2 else 3 : Int)), (0, b)]) rfl ?_
  refine g_aload_nq h 359 dL_law_359 rfl rfl ?_
  refine g_callV0 h hE 360 dL_law_360 (cpX8_thrown hl) mwX8_thrown kw_1134 (by decide) (by decide) rfl (Nat.le_of_ble_eq_true rfl) rfl (Nat.le_of_ble_eq_true rfl) ⟨by omega, by omega⟩ rfl rfl ?_
  show G X (1000 + 8 * j + 4) (20000 + 48 * j + 6 * 4) 363 [(61, 0), (10, 0), (11, 0), (60, 0), (0, i), (0, (if gxc r = 0 then 0 else if gxc r = 1 then 1 else if gxc r = 2 then 2 else 3 : Int)), (0, b)] [(0, m1 101 0)] ((if gxc r = 0 then upd2 s1 51 0 r else s1), m1)
  refine g_iload h 363 dL_law_363 rfl ?_
  refine g_icmp_eq h 365 370 (gRi (by omega)) (gRi (by omega)) dL_law_365 (by decide) (fun _ => ?_) (fun q => absurd ht q)
  refine g_iload h 370 dL_law_370 rfl ?_
  refine g_if_ne h 372 387 (gRi (by omega)) dL_law_372 (by decide) (fun _ => ?_) (fun hk0 => ?_)
  · refine g_goto h 387 1986 dL_law_387 (by decide) ?_
    exact G_widen (by omega) (by omega) (JE _ _ _ _ hI)
  have hx0 : gxc r = 0 := by
    rcases hx with hx | hx | hx | hx
    · exact hx
    · rw [hx] at hk0; exact absurd hk0 (by decide)
    · rw [hx] at hk0; exact absurd hk0 (by decide)
    · rw [hx] at hk0; exact absurd hk0 (by decide)
  have hbr := hb9 hx0
  have hr := (rgX7_map hF).resolve_left (fun q => q hx0)
  have hov : (if gxc r = 0 then upd2 s1 51 0 r else s1) 51 0 = r := by rw [if_pos hx0]; exact upd2_s
  subst hbr
  refine g_aload_nq h 375 dL_law_375 rfl rfl ?_
  refine g_iconst h 376 dL_law_376 ?_
  refine al_out h 377 dL_law_377 (by decide) ?_
  rw [hov]
  refine g_iload h 378 dL_law_378 rfl ?_
  refine g_i2l h 380 dL_law_380 (gRi hr) ?_
  refine g_lcmp h 381 dL_law_381 (gRi hr) (gRi hr) ?_
  rw [if_neg (Int.lt_irrefl _), if_pos rfl]
  refine g_if_eq h 382 387 gR_0 dL_law_382 (by decide) (fun _ => ?_) (fun q => absurd rfl q)
  refine g_goto h 387 1986 dL_law_387 (by decide) ?_
  exact G_widen (by omega) (by omega) (JE _ _ _ _ hI)
set_option maxRecDepth 100000 in
set_option maxHeartbeats 4000000 in
theorem lc_unmap {X : gX} {l : Launch} {w : gW} {bs : Nat} (hl : l.stackTraces = false) (h : gOk X "PagewrightLaw" cL_law 7 14 601024 7293033) (hE : gAtX X l w bs) {Ln : Nat} {xs : Nat → Int32} (hX : gScr X Ln xs) (hL9 : Ln ≤ 4608) {Inv : Nat → S2 → S2 → Prop} (HS : gSim_unmap Inv) (j : Nat) (hj : j < 512) {i : Int} (hi : 0 ≤ i ∧ i + 9 ≤ Ln) (σ μ : S2) (hInv : Inv j σ μ) (JE : ∀ (σ1 μ1 : S2) (z5 z6 : Int), Inv (j + 1) σ1 μ1 → G X (1000 + 8 * (j + 1)) (20000 + 48 * (j + 1)) 1986 [(61, 0), (10, 0), (11, 0), (60, 0), (0, i), (0, z5), (0, z6)] [] (σ1, μ1)) : G X (1000 + 8 * j) (20000 + 48 * j) 390 [(61, 0), (10, 0), (11, 0), (60, 0), (0, i), (1, 0), (1, 0)] [] (σ, μ) := by
  have r1 : -2147483648 ≤ (xs (i + 1).toNat).toInt ∧ (xs (i + 1).toNat).toInt ≤ 2147483647 := gR_toInt _
  have r2 : -2147483648 ≤ (xs (i + 2).toNat).toInt ∧ (xs (i + 2).toNat).toInt ≤ 2147483647 := gR_toInt _
  have r3 : -2147483648 ≤ (xs (i + 3).toNat).toInt ∧ (xs (i + 3).toNat).toInt ≤ 2147483647 := gR_toInt _
  obtain ⟨r, s1, b, m1, hF, hG, hx, ht, hb9, hI⟩ := HS j σ μ ((xs (i + 1).toNat).toInt) ((xs (i + 2).toNat).toInt) ((xs (i + 3).toNat).toInt) hInv hj r1 r2 r3
  have hk : 0 ≤ (if gxc r = 0 then 0 else if gxc r = 1 then 1 else if gxc r = 2 then 2 else 3 : Int) ∧ (if gxc r = 0 then 0 else if gxc r = 1 then 1 else if gxc r = 2 then 2 else 3 : Int) ≤ 3 := by rcases hx with hx | hx | hx | hx <;> rw [hx] <;> decide
  refine g_aload_nq h 390 dL_law_390 rfl rfl ?_
  refine g_aload_nq h 391 dL_law_391 rfl rfl ?_
  refine g_iload h 392 dL_law_392 rfl ?_
  refine g_iconst h 394 dL_law_394 ?_
  refine g_iadd h 395 dL_law_395 ?_
  refine g_scrld h 396 dL_law_396 hX (by omega) hL9 ?_
  refine g_aload_nq h 397 dL_law_397 rfl rfl ?_
  refine g_iload h 398 dL_law_398 rfl ?_
  refine g_iconst h 400 dL_law_400 ?_
  refine g_iadd h 401 dL_law_401 ?_
  refine g_scrld h 402 dL_law_402 hX (by omega) hL9 ?_
  refine g_aload_nq h 403 dL_law_403 rfl rfl ?_
  refine g_iload h 404 dL_law_404 rfl ?_
  refine g_iconst h 406 dL_law_406 ?_
  refine g_iadd h 407 dL_law_407 ?_
  refine g_scrld h 408 dL_law_408 hX (by omega) hL9 ?_
  refine g_aload_nq h 409 dL_law_409 rfl rfl ?_
  refine g_callSH (n := 5) h hE 410 dL_law_410 (cw_unmap hl hF hx) kw_556 kw_100 kw_555 ⟨by decide, by decide, by decide +kernel⟩ (Nat.le_of_ble_eq_true rfl) kw_554 (Nat.le_of_ble_eq_true rfl) rfl (Nat.le_of_ble_eq_true rfl) ⟨by omega, by omega⟩ rfl rfl ?_
  show G X (1000 + 8 * j + 3) (20000 + 48 * j + 6 * 3) 413 [(61, 0), (10, 0), (11, 0), (60, 0), (0, i), (1, 0), (1, 0)] [(0, (if gxc r = 0 then 0 else if gxc r = 1 then 1 else if gxc r = 2 then 2 else 3 : Int))] ((if gxc r = 0 then upd2 s1 51 0 r else s1), μ)
  refine g_istore h 413 dL_law_413 (Nat.le_of_ble_eq_true rfl) rfl (L' := [(61, 0), (10, 0), (11, 0), (60, 0), (0, i), (0, (if gxc r = 0 then 0 else if gxc r = 1 then 1 else if gxc r = 2 then 2 else 3 : Int)), (1, 0)]) rfl ?_
  refine g_aload_nq h 415 dL_law_415 rfl rfl ?_
  refine g_aload_nq h 416 dL_law_416 rfl rfl ?_
  refine g_iload h 417 dL_law_417 rfl ?_
  refine g_iconst h 419 dL_law_419 ?_
  refine g_iadd h 420 dL_law_420 ?_
  refine g_scrld h 421 dL_law_421 hX (by omega) hL9 ?_
  refine g_aload_nq h 422 dL_law_422 rfl rfl ?_
  refine g_iload h 423 dL_law_423 rfl ?_
  refine g_iconst h 425 dL_law_425 ?_
  refine g_iadd h 426 dL_law_426 ?_
  refine g_scrld h 427 dL_law_427 hX (by omega) hL9 ?_
  refine g_aload_nq h 428 dL_law_428 rfl rfl ?_
  refine g_iload h 429 dL_law_429 rfl ?_
  refine g_iconst h 431 dL_law_431 ?_
  refine g_iadd h 432 dL_law_432 ?_
  refine g_scrld h 433 dL_law_433 hX (by omega) hL9 ?_
  refine g_callV0 h hE 434 dL_law_434 (ctX8_unmap hl hG) mwX8_unmap kw_1184 (by decide) (by decide) rfl (Nat.le_of_ble_eq_true rfl) rfl (Nat.le_of_ble_eq_true rfl) ⟨by omega, by omega⟩ rfl rfl ?_
  show G X (1000 + 8 * j + 3) (20000 + 48 * j + 6 * 3) 437 [(61, 0), (10, 0), (11, 0), (60, 0), (0, i), (0, (if gxc r = 0 then 0 else if gxc r = 1 then 1 else if gxc r = 2 then 2 else 3 : Int)), (1, 0)] [(0, b)] ((if gxc r = 0 then upd2 s1 51 0 r else s1), m1)
  refine g_istore h 437 dL_law_437 (Nat.le_of_ble_eq_true rfl) rfl (L' := [(61, 0), (10, 0), (11, 0), (60, 0), (0, i), (0, (if gxc r = 0 then 0 else if gxc r = 1 then 1 else if gxc r = 2 then 2 else 3 : Int)), (0, b)]) rfl ?_
  refine g_aload_nq h 439 dL_law_439 rfl rfl ?_
  refine g_callV0 h hE 440 dL_law_440 (cpX8_thrown hl) mwX8_thrown kw_1134 (by decide) (by decide) rfl (Nat.le_of_ble_eq_true rfl) rfl (Nat.le_of_ble_eq_true rfl) ⟨by omega, by omega⟩ rfl rfl ?_
  show G X (1000 + 8 * j + 3) (20000 + 48 * j + 6 * 3) 443 [(61, 0), (10, 0), (11, 0), (60, 0), (0, i), (0, (if gxc r = 0 then 0 else if gxc r = 1 then 1 else if gxc r = 2 then 2 else 3 : Int)), (0, b)] [(0, m1 101 0)] ((if gxc r = 0 then upd2 s1 51 0 r else s1), m1)
  refine g_iload h 443 dL_law_443 rfl ?_
  refine g_icmp_eq h 445 450 (gRi (by omega)) (gRi (by omega)) dL_law_445 (by decide) (fun _ => ?_) (fun q => absurd ht q)
  refine g_iload h 450 dL_law_450 rfl ?_
  refine g_if_ne h 452 467 (gRi (by omega)) dL_law_452 (by decide) (fun _ => ?_) (fun hk0 => ?_)
  · refine g_goto h 467 1986 dL_law_467 (by decide) ?_
    exact G_widen (by omega) (by omega) (JE _ _ _ _ hI)
  have hx0 : gxc r = 0 := by
    rcases hx with hx | hx | hx | hx
    · exact hx
    · rw [hx] at hk0; exact absurd hk0 (by decide)
    · rw [hx] at hk0; exact absurd hk0 (by decide)
    · rw [hx] at hk0; exact absurd hk0 (by decide)
  have hbr := hb9 hx0
  have hr := (rgX7_unmap hF).resolve_left (fun q => q hx0)
  have hov : (if gxc r = 0 then upd2 s1 51 0 r else s1) 51 0 = r := by rw [if_pos hx0]; exact upd2_s
  subst hbr
  refine g_aload_nq h 455 dL_law_455 rfl rfl ?_
  refine g_iconst h 456 dL_law_456 ?_
  refine al_out h 457 dL_law_457 (by decide) ?_
  rw [hov]
  refine g_iload h 458 dL_law_458 rfl ?_
  refine g_i2l h 460 dL_law_460 (gRi hr) ?_
  refine g_lcmp h 461 dL_law_461 (gRi hr) (gRi hr) ?_
  rw [if_neg (Int.lt_irrefl _), if_pos rfl]
  refine g_if_eq h 462 467 gR_0 dL_law_462 (by decide) (fun _ => ?_) (fun q => absurd rfl q)
  refine g_goto h 467 1986 dL_law_467 (by decide) ?_
  exact G_widen (by omega) (by omega) (JE _ _ _ _ hI)
set_option maxRecDepth 100000 in
set_option maxHeartbeats 4000000 in
theorem lc_protect {X : gX} {l : Launch} {w : gW} {bs : Nat} (hl : l.stackTraces = false) (h : gOk X "PagewrightLaw" cL_law 7 14 601024 7293033) (hE : gAtX X l w bs) {Ln : Nat} {xs : Nat → Int32} (hX : gScr X Ln xs) (hL9 : Ln ≤ 4608) {Inv : Nat → S2 → S2 → Prop} (HS : gSim_protect Inv) (j : Nat) (hj : j < 512) {i : Int} (hi : 0 ≤ i ∧ i + 9 ≤ Ln) (σ μ : S2) (hInv : Inv j σ μ) (JE : ∀ (σ1 μ1 : S2) (z5 z6 : Int), Inv (j + 1) σ1 μ1 → G X (1000 + 8 * (j + 1)) (20000 + 48 * (j + 1)) 1986 [(61, 0), (10, 0), (11, 0), (60, 0), (0, i), (0, z5), (0, z6)] [] (σ1, μ1)) : G X (1000 + 8 * j) (20000 + 48 * j) 470 [(61, 0), (10, 0), (11, 0), (60, 0), (0, i), (1, 0), (1, 0)] [] (σ, μ) := by
  have r1 : -2147483648 ≤ (xs (i + 1).toNat).toInt ∧ (xs (i + 1).toNat).toInt ≤ 2147483647 := gR_toInt _
  have r2 : -2147483648 ≤ (xs (i + 2).toNat).toInt ∧ (xs (i + 2).toNat).toInt ≤ 2147483647 := gR_toInt _
  have r3 : -2147483648 ≤ (xs (i + 3).toNat).toInt ∧ (xs (i + 3).toNat).toInt ≤ 2147483647 := gR_toInt _
  have r4 : -2147483648 ≤ (xs (i + 4).toNat).toInt ∧ (xs (i + 4).toNat).toInt ≤ 2147483647 := gR_toInt _
  obtain ⟨r, s1, b, m1, hF, hG, hx, ht, hb9, hI⟩ := HS j σ μ ((xs (i + 1).toNat).toInt) ((xs (i + 2).toNat).toInt) ((xs (i + 3).toNat).toInt) ((xs (i + 4).toNat).toInt) hInv hj r1 r2 r3 r4
  have hk : 0 ≤ (if gxc r = 0 then 0 else if gxc r = 1 then 1 else if gxc r = 2 then 2 else 3 : Int) ∧ (if gxc r = 0 then 0 else if gxc r = 1 then 1 else if gxc r = 2 then 2 else 3 : Int) ≤ 3 := by rcases hx with hx | hx | hx | hx <;> rw [hx] <;> decide
  refine g_aload_nq h 470 dL_law_470 rfl rfl ?_
  refine g_aload_nq h 471 dL_law_471 rfl rfl ?_
  refine g_iload h 472 dL_law_472 rfl ?_
  refine g_iconst h 474 dL_law_474 ?_
  refine g_iadd h 475 dL_law_475 ?_
  refine g_scrld h 476 dL_law_476 hX (by omega) hL9 ?_
  refine g_aload_nq h 477 dL_law_477 rfl rfl ?_
  refine g_iload h 478 dL_law_478 rfl ?_
  refine g_iconst h 480 dL_law_480 ?_
  refine g_iadd h 481 dL_law_481 ?_
  refine g_scrld h 482 dL_law_482 hX (by omega) hL9 ?_
  refine g_aload_nq h 483 dL_law_483 rfl rfl ?_
  refine g_iload h 484 dL_law_484 rfl ?_
  refine g_iconst h 486 dL_law_486 ?_
  refine g_iadd h 487 dL_law_487 ?_
  refine g_scrld h 488 dL_law_488 hX (by omega) hL9 ?_
  refine g_aload_nq h 489 dL_law_489 rfl rfl ?_
  refine g_iload h 490 dL_law_490 rfl ?_
  refine g_iconst h 492 dL_law_492 ?_
  refine g_iadd h 493 dL_law_493 ?_
  refine g_scrld h 494 dL_law_494 hX (by omega) hL9 ?_
  refine g_aload_nq h 495 dL_law_495 rfl rfl ?_
  refine g_callSH (n := 6) h hE 496 dL_law_496 (cw_protect hl hF hx) kw_592 kw_100 kw_591 ⟨by decide, by decide, by decide +kernel⟩ (Nat.le_of_ble_eq_true rfl) kw_590 (Nat.le_of_ble_eq_true rfl) rfl (Nat.le_of_ble_eq_true rfl) ⟨by omega, by omega⟩ rfl rfl ?_
  show G X (1000 + 8 * j + 3) (20000 + 48 * j + 6 * 3) 499 [(61, 0), (10, 0), (11, 0), (60, 0), (0, i), (1, 0), (1, 0)] [(0, (if gxc r = 0 then 0 else if gxc r = 1 then 1 else if gxc r = 2 then 2 else 3 : Int))] ((if gxc r = 0 then upd2 s1 51 0 r else s1), μ)
  refine g_istore h 499 dL_law_499 (Nat.le_of_ble_eq_true rfl) rfl (L' := [(61, 0), (10, 0), (11, 0), (60, 0), (0, i), (0, (if gxc r = 0 then 0 else if gxc r = 1 then 1 else if gxc r = 2 then 2 else 3 : Int)), (1, 0)]) rfl ?_
  refine g_aload_nq h 501 dL_law_501 rfl rfl ?_
  refine g_aload_nq h 502 dL_law_502 rfl rfl ?_
  refine g_iload h 503 dL_law_503 rfl ?_
  refine g_iconst h 505 dL_law_505 ?_
  refine g_iadd h 506 dL_law_506 ?_
  refine g_scrld h 507 dL_law_507 hX (by omega) hL9 ?_
  refine g_aload_nq h 508 dL_law_508 rfl rfl ?_
  refine g_iload h 509 dL_law_509 rfl ?_
  refine g_iconst h 511 dL_law_511 ?_
  refine g_iadd h 512 dL_law_512 ?_
  refine g_scrld h 513 dL_law_513 hX (by omega) hL9 ?_
  refine g_aload_nq h 514 dL_law_514 rfl rfl ?_
  refine g_iload h 515 dL_law_515 rfl ?_
  refine g_iconst h 517 dL_law_517 ?_
  refine g_iadd h 518 dL_law_518 ?_
  refine g_scrld h 519 dL_law_519 hX (by omega) hL9 ?_
  refine g_aload_nq h 520 dL_law_520 rfl rfl ?_
  refine g_iload h 521 dL_law_521 rfl ?_
  refine g_iconst h 523 dL_law_523 ?_
  refine g_iadd h 524 dL_law_524 ?_
  refine g_scrld h 525 dL_law_525 hX (by omega) hL9 ?_
  refine g_callV0 h hE 526 dL_law_526 (ctX8_protect hl hG) mwX8_protect kw_1220 (by decide) (by decide) rfl (Nat.le_of_ble_eq_true rfl) rfl (Nat.le_of_ble_eq_true rfl) ⟨by omega, by omega⟩ rfl rfl ?_
  show G X (1000 + 8 * j + 3) (20000 + 48 * j + 6 * 3) 529 [(61, 0), (10, 0), (11, 0), (60, 0), (0, i), (0, (if gxc r = 0 then 0 else if gxc r = 1 then 1 else if gxc r = 2 then 2 else 3 : Int)), (1, 0)] [(0, b)] ((if gxc r = 0 then upd2 s1 51 0 r else s1), m1)
  refine g_istore h 529 dL_law_529 (Nat.le_of_ble_eq_true rfl) rfl (L' := [(61, 0), (10, 0), (11, 0), (60, 0), (0, i), (0, (if gxc r = 0 then 0 else if gxc r = 1 then 1 else if gxc r = 2 then 2 else 3 : Int)), (0, b)]) rfl ?_
  refine g_aload_nq h 531 dL_law_531 rfl rfl ?_
  refine g_callV0 h hE 532 dL_law_532 (cpX8_thrown hl) mwX8_thrown kw_1134 (by decide) (by decide) rfl (Nat.le_of_ble_eq_true rfl) rfl (Nat.le_of_ble_eq_true rfl) ⟨by omega, by omega⟩ rfl rfl ?_
  show G X (1000 + 8 * j + 3) (20000 + 48 * j + 6 * 3) 535 [(61, 0), (10, 0), (11, 0), (60, 0), (0, i), (0, (if gxc r = 0 then 0 else if gxc r = 1 then 1 else if gxc r = 2 then 2 else 3 : Int)), (0, b)] [(0, m1 101 0)] ((if gxc r = 0 then upd2 s1 51 0 r else s1), m1)
  refine g_iload h 535 dL_law_535 rfl ?_
  refine g_icmp_eq h 537 542 (gRi (by omega)) (gRi (by omega)) dL_law_537 (by decide) (fun _ => ?_) (fun q => absurd ht q)
  refine g_iload h 542 dL_law_542 rfl ?_
  refine g_if_ne h 544 559 (gRi (by omega)) dL_law_544 (by decide) (fun _ => ?_) (fun hk0 => ?_)
  · refine g_goto h 559 1986 dL_law_559 (by decide) ?_
    exact G_widen (by omega) (by omega) (JE _ _ _ _ hI)
  have hx0 : gxc r = 0 := by
    rcases hx with hx | hx | hx | hx
    · exact hx
    · rw [hx] at hk0; exact absurd hk0 (by decide)
    · rw [hx] at hk0; exact absurd hk0 (by decide)
    · rw [hx] at hk0; exact absurd hk0 (by decide)
  have hbr := hb9 hx0
  have hr := (rgX7_protect hF).resolve_left (fun q => q hx0)
  have hov : (if gxc r = 0 then upd2 s1 51 0 r else s1) 51 0 = r := by rw [if_pos hx0]; exact upd2_s
  subst hbr
  refine g_aload_nq h 547 dL_law_547 rfl rfl ?_
  refine g_iconst h 548 dL_law_548 ?_
  refine al_out h 549 dL_law_549 (by decide) ?_
  rw [hov]
  refine g_iload h 550 dL_law_550 rfl ?_
  refine g_i2l h 552 dL_law_552 (gRi hr) ?_
  refine g_lcmp h 553 dL_law_553 (gRi hr) (gRi hr) ?_
  rw [if_neg (Int.lt_irrefl _), if_pos rfl]
  refine g_if_eq h 554 559 gR_0 dL_law_554 (by decide) (fun _ => ?_) (fun q => absurd rfl q)
  refine g_goto h 559 1986 dL_law_559 (by decide) ?_
  exact G_widen (by omega) (by omega) (JE _ _ _ _ hI)
set_option maxRecDepth 100000 in
set_option maxHeartbeats 4000000 in
theorem lc_move {X : gX} {l : Launch} {w : gW} {bs : Nat} (hl : l.stackTraces = false) (h : gOk X "PagewrightLaw" cL_law 7 14 601024 7293033) (hE : gAtX X l w bs) {Ln : Nat} {xs : Nat → Int32} (hX : gScr X Ln xs) (hL9 : Ln ≤ 4608) {Inv : Nat → S2 → S2 → Prop} (HS : gSim_move Inv) (j : Nat) (hj : j < 512) {i : Int} (hi : 0 ≤ i ∧ i + 9 ≤ Ln) (σ μ : S2) (hInv : Inv j σ μ) (JE : ∀ (σ1 μ1 : S2) (z5 z6 : Int), Inv (j + 1) σ1 μ1 → G X (1000 + 8 * (j + 1)) (20000 + 48 * (j + 1)) 1986 [(61, 0), (10, 0), (11, 0), (60, 0), (0, i), (0, z5), (0, z6)] [] (σ1, μ1)) : G X (1000 + 8 * j) (20000 + 48 * j) 562 [(61, 0), (10, 0), (11, 0), (60, 0), (0, i), (1, 0), (1, 0)] [] (σ, μ) := by
  have r1 : -2147483648 ≤ (xs (i + 1).toNat).toInt ∧ (xs (i + 1).toNat).toInt ≤ 2147483647 := gR_toInt _
  have r2 : -2147483648 ≤ (xs (i + 2).toNat).toInt ∧ (xs (i + 2).toNat).toInt ≤ 2147483647 := gR_toInt _
  have r3 : -2147483648 ≤ (xs (i + 3).toNat).toInt ∧ (xs (i + 3).toNat).toInt ≤ 2147483647 := gR_toInt _
  have r4 : -2147483648 ≤ (xs (i + 4).toNat).toInt ∧ (xs (i + 4).toNat).toInt ≤ 2147483647 := gR_toInt _
  obtain ⟨r, s1, b, m1, hF, hG, hx, ht, hb9, hI⟩ := HS j σ μ ((xs (i + 1).toNat).toInt) ((xs (i + 2).toNat).toInt) ((xs (i + 3).toNat).toInt) ((xs (i + 4).toNat).toInt) hInv hj r1 r2 r3 r4
  have hk : 0 ≤ (if gxc r = 0 then 0 else if gxc r = 1 then 1 else if gxc r = 2 then 2 else 3 : Int) ∧ (if gxc r = 0 then 0 else if gxc r = 1 then 1 else if gxc r = 2 then 2 else 3 : Int) ≤ 3 := by rcases hx with hx | hx | hx | hx <;> rw [hx] <;> decide
  refine g_aload_nq h 562 dL_law_562 rfl rfl ?_
  refine g_aload_nq h 563 dL_law_563 rfl rfl ?_
  refine g_iload h 564 dL_law_564 rfl ?_
  refine g_iconst h 566 dL_law_566 ?_
  refine g_iadd h 567 dL_law_567 ?_
  refine g_scrld h 568 dL_law_568 hX (by omega) hL9 ?_
  refine g_aload_nq h 569 dL_law_569 rfl rfl ?_
  refine g_iload h 570 dL_law_570 rfl ?_
  refine g_iconst h 572 dL_law_572 ?_
  refine g_iadd h 573 dL_law_573 ?_
  refine g_scrld h 574 dL_law_574 hX (by omega) hL9 ?_
  refine g_aload_nq h 575 dL_law_575 rfl rfl ?_
  refine g_iload h 576 dL_law_576 rfl ?_
  refine g_iconst h 578 dL_law_578 ?_
  refine g_iadd h 579 dL_law_579 ?_
  refine g_scrld h 580 dL_law_580 hX (by omega) hL9 ?_
  refine g_aload_nq h 581 dL_law_581 rfl rfl ?_
  refine g_iload h 582 dL_law_582 rfl ?_
  refine g_iconst h 584 dL_law_584 ?_
  refine g_iadd h 585 dL_law_585 ?_
  refine g_scrld h 586 dL_law_586 hX (by omega) hL9 ?_
  refine g_aload_nq h 587 dL_law_587 rfl rfl ?_
  refine g_callSH (n := 6) h hE 588 dL_law_588 (cw_move hl hF hx) kw_604 kw_100 kw_603 ⟨by decide, by decide, by decide +kernel⟩ (Nat.le_of_ble_eq_true rfl) kw_602 (Nat.le_of_ble_eq_true rfl) rfl (Nat.le_of_ble_eq_true rfl) ⟨by omega, by omega⟩ rfl rfl ?_
  show G X (1000 + 8 * j + 3) (20000 + 48 * j + 6 * 3) 591 [(61, 0), (10, 0), (11, 0), (60, 0), (0, i), (1, 0), (1, 0)] [(0, (if gxc r = 0 then 0 else if gxc r = 1 then 1 else if gxc r = 2 then 2 else 3 : Int))] ((if gxc r = 0 then upd2 s1 51 0 r else s1), μ)
  refine g_istore h 591 dL_law_591 (Nat.le_of_ble_eq_true rfl) rfl (L' := [(61, 0), (10, 0), (11, 0), (60, 0), (0, i), (0, (if gxc r = 0 then 0 else if gxc r = 1 then 1 else if gxc r = 2 then 2 else 3 : Int)), (1, 0)]) rfl ?_
  refine g_aload_nq h 593 dL_law_593 rfl rfl ?_
  refine g_aload_nq h 594 dL_law_594 rfl rfl ?_
  refine g_iload h 595 dL_law_595 rfl ?_
  refine g_iconst h 597 dL_law_597 ?_
  refine g_iadd h 598 dL_law_598 ?_
  refine g_scrld h 599 dL_law_599 hX (by omega) hL9 ?_
  refine g_aload_nq h 600 dL_law_600 rfl rfl ?_
  refine g_iload h 601 dL_law_601 rfl ?_
  refine g_iconst h 603 dL_law_603 ?_
  refine g_iadd h 604 dL_law_604 ?_
  refine g_scrld h 605 dL_law_605 hX (by omega) hL9 ?_
  refine g_aload_nq h 606 dL_law_606 rfl rfl ?_
  refine g_iload h 607 dL_law_607 rfl ?_
  refine g_iconst h 609 dL_law_609 ?_
  refine g_iadd h 610 dL_law_610 ?_
  refine g_scrld h 611 dL_law_611 hX (by omega) hL9 ?_
  refine g_aload_nq h 612 dL_law_612 rfl rfl ?_
  refine g_iload h 613 dL_law_613 rfl ?_
  refine g_iconst h 615 dL_law_615 ?_
  refine g_iadd h 616 dL_law_616 ?_
  refine g_scrld h 617 dL_law_617 hX (by omega) hL9 ?_
  refine g_callV0 h hE 618 dL_law_618 (ctX8_move hl hG) mwX8_move kw_1228 (by decide) (by decide) rfl (Nat.le_of_ble_eq_true rfl) rfl (Nat.le_of_ble_eq_true rfl) ⟨by omega, by omega⟩ rfl rfl ?_
  show G X (1000 + 8 * j + 3) (20000 + 48 * j + 6 * 3) 621 [(61, 0), (10, 0), (11, 0), (60, 0), (0, i), (0, (if gxc r = 0 then 0 else if gxc r = 1 then 1 else if gxc r = 2 then 2 else 3 : Int)), (1, 0)] [(0, b)] ((if gxc r = 0 then upd2 s1 51 0 r else s1), m1)
  refine g_istore h 621 dL_law_621 (Nat.le_of_ble_eq_true rfl) rfl (L' := [(61, 0), (10, 0), (11, 0), (60, 0), (0, i), (0, (if gxc r = 0 then 0 else if gxc r = 1 then 1 else if gxc r = 2 then 2 else 3 : Int)), (0, b)]) rfl ?_
  refine g_aload_nq h 623 dL_law_623 rfl rfl ?_
  refine g_callV0 h hE 624 dL_law_624 (cpX8_thrown hl) mwX8_thrown kw_1134 (by decide) (by decide) rfl (Nat.le_of_ble_eq_true rfl) rfl (Nat.le_of_ble_eq_true rfl) ⟨by omega, by omega⟩ rfl rfl ?_
  show G X (1000 + 8 * j + 3) (20000 + 48 * j + 6 * 3) 627 [(61, 0), (10, 0), (11, 0), (60, 0), (0, i), (0, (if gxc r = 0 then 0 else if gxc r = 1 then 1 else if gxc r = 2 then 2 else 3 : Int)), (0, b)] [(0, m1 101 0)] ((if gxc r = 0 then upd2 s1 51 0 r else s1), m1)
  refine g_iload h 627 dL_law_627 rfl ?_
  refine g_icmp_eq h 629 634 (gRi (by omega)) (gRi (by omega)) dL_law_629 (by decide) (fun _ => ?_) (fun q => absurd ht q)
  refine g_iload h 634 dL_law_634 rfl ?_
  refine g_if_ne h 636 651 (gRi (by omega)) dL_law_636 (by decide) (fun _ => ?_) (fun hk0 => ?_)
  · refine g_goto h 651 1986 dL_law_651 (by decide) ?_
    exact G_widen (by omega) (by omega) (JE _ _ _ _ hI)
  have hx0 : gxc r = 0 := by
    rcases hx with hx | hx | hx | hx
    · exact hx
    · rw [hx] at hk0; exact absurd hk0 (by decide)
    · rw [hx] at hk0; exact absurd hk0 (by decide)
    · rw [hx] at hk0; exact absurd hk0 (by decide)
  have hbr := hb9 hx0
  have hr := (rgX7_move hF).resolve_left (fun q => q hx0)
  have hov : (if gxc r = 0 then upd2 s1 51 0 r else s1) 51 0 = r := by rw [if_pos hx0]; exact upd2_s
  subst hbr
  refine g_aload_nq h 639 dL_law_639 rfl rfl ?_
  refine g_iconst h 640 dL_law_640 ?_
  refine al_out h 641 dL_law_641 (by decide) ?_
  rw [hov]
  refine g_iload h 642 dL_law_642 rfl ?_
  refine g_i2l h 644 dL_law_644 (gRi hr) ?_
  refine g_lcmp h 645 dL_law_645 (gRi hr) (gRi hr) ?_
  rw [if_neg (Int.lt_irrefl _), if_pos rfl]
  refine g_if_eq h 646 651 gR_0 dL_law_646 (by decide) (fun _ => ?_) (fun q => absurd rfl q)
  refine g_goto h 651 1986 dL_law_651 (by decide) ?_
  exact G_widen (by omega) (by omega) (JE _ _ _ _ hI)
set_option maxRecDepth 100000 in
set_option maxHeartbeats 4000000 in
theorem lc_fork {X : gX} {l : Launch} {w : gW} {bs : Nat} (hl : l.stackTraces = false) (h : gOk X "PagewrightLaw" cL_law 7 14 601024 7293033) (hE : gAtX X l w bs) {Ln : Nat} {xs : Nat → Int32} (hX : gScr X Ln xs) (hL9 : Ln ≤ 4608) {Inv : Nat → S2 → S2 → Prop} (HS : gSim_fork Inv) (j : Nat) (hj : j < 512) {i : Int} (hi : 0 ≤ i ∧ i + 9 ≤ Ln) (σ μ : S2) (hInv : Inv j σ μ) (JE : ∀ (σ1 μ1 : S2) (z5 z6 : Int), Inv (j + 1) σ1 μ1 → G X (1000 + 8 * (j + 1)) (20000 + 48 * (j + 1)) 1986 [(61, 0), (10, 0), (11, 0), (60, 0), (0, i), (0, z5), (0, z6)] [] (σ1, μ1)) : G X (1000 + 8 * j) (20000 + 48 * j) 654 [(61, 0), (10, 0), (11, 0), (60, 0), (0, i), (1, 0), (1, 0)] [] (σ, μ) := by
  have r1 : -2147483648 ≤ (xs (i + 1).toNat).toInt ∧ (xs (i + 1).toNat).toInt ≤ 2147483647 := gR_toInt _
  obtain ⟨r, s1, b, m1, hF, hG, hx, ht, hb9, hI⟩ := HS j σ μ ((xs (i + 1).toNat).toInt) hInv hj r1
  have hk : 0 ≤ (if gxc r = 0 then 0 else if gxc r = 1 then 1 else 2 : Int) ∧ (if gxc r = 0 then 0 else if gxc r = 1 then 1 else 2 : Int) ≤ 3 := by rcases hx with hx | hx | hx <;> rw [hx] <;> decide
  refine g_aload_nq h 654 dL_law_654 rfl rfl ?_
  refine g_aload_nq h 655 dL_law_655 rfl rfl ?_
  refine g_iload h 656 dL_law_656 rfl ?_
  refine g_iconst h 658 dL_law_658 ?_
  refine g_iadd h 659 dL_law_659 ?_
  refine g_scrld h 660 dL_law_660 hX (by omega) hL9 ?_
  refine g_aload_nq h 661 dL_law_661 rfl rfl ?_
  refine g_callSH (n := 3) h hE 662 dL_law_662 (cw_fork hl hF hx) kw_617 kw_100 kw_616 ⟨by decide, by decide, by decide +kernel⟩ (Nat.le_of_ble_eq_true rfl) kw_615 (Nat.le_of_ble_eq_true rfl) rfl (Nat.le_of_ble_eq_true rfl) ⟨by omega, by omega⟩ rfl rfl ?_
  show G X (1000 + 8 * j + 2) (20000 + 48 * j + 6 * 2) 665 [(61, 0), (10, 0), (11, 0), (60, 0), (0, i), (1, 0), (1, 0)] [(0, (if gxc r = 0 then 0 else if gxc r = 1 then 1 else 2 : Int))] ((if gxc r = 0 then upd2 s1 51 0 r else s1), μ)
  refine g_istore h 665 dL_law_665 (Nat.le_of_ble_eq_true rfl) rfl (L' := [(61, 0), (10, 0), (11, 0), (60, 0), (0, i), (0, (if gxc r = 0 then 0 else if gxc r = 1 then 1 else 2 : Int)), (1, 0)]) rfl ?_
  refine g_aload_nq h 667 dL_law_667 rfl rfl ?_
  refine g_aload_nq h 668 dL_law_668 rfl rfl ?_
  refine g_iload h 669 dL_law_669 rfl ?_
  refine g_iconst h 671 dL_law_671 ?_
  refine g_iadd h 672 dL_law_672 ?_
  refine g_scrld h 673 dL_law_673 hX (by omega) hL9 ?_
  refine g_callV0 h hE 674 dL_law_674 (ctX8_fork hl hG) mwX8_fork kw_1236 (by decide) (by decide) rfl (Nat.le_of_ble_eq_true rfl) rfl (Nat.le_of_ble_eq_true rfl) ⟨by omega, by omega⟩ rfl rfl ?_
  show G X (1000 + 8 * j + 2) (20000 + 48 * j + 6 * 2) 677 [(61, 0), (10, 0), (11, 0), (60, 0), (0, i), (0, (if gxc r = 0 then 0 else if gxc r = 1 then 1 else 2 : Int)), (1, 0)] [(0, b)] ((if gxc r = 0 then upd2 s1 51 0 r else s1), m1)
  refine g_istore h 677 dL_law_677 (Nat.le_of_ble_eq_true rfl) rfl (L' := [(61, 0), (10, 0), (11, 0), (60, 0), (0, i), (0, (if gxc r = 0 then 0 else if gxc r = 1 then 1 else 2 : Int)), (0, b)]) rfl ?_
  refine g_aload_nq h 679 dL_law_679 rfl rfl ?_
  refine g_callV0 h hE 680 dL_law_680 (cpX8_thrown hl) mwX8_thrown kw_1134 (by decide) (by decide) rfl (Nat.le_of_ble_eq_true rfl) rfl (Nat.le_of_ble_eq_true rfl) ⟨by omega, by omega⟩ rfl rfl ?_
  show G X (1000 + 8 * j + 2) (20000 + 48 * j + 6 * 2) 683 [(61, 0), (10, 0), (11, 0), (60, 0), (0, i), (0, (if gxc r = 0 then 0 else if gxc r = 1 then 1 else 2 : Int)), (0, b)] [(0, m1 101 0)] ((if gxc r = 0 then upd2 s1 51 0 r else s1), m1)
  refine g_iload h 683 dL_law_683 rfl ?_
  refine g_icmp_eq h 685 690 (gRi (by omega)) (gRi (by omega)) dL_law_685 (by decide) (fun _ => ?_) (fun q => absurd ht q)
  refine g_iload h 690 dL_law_690 rfl ?_
  refine g_if_ne h 692 707 (gRi (by omega)) dL_law_692 (by decide) (fun _ => ?_) (fun hk0 => ?_)
  · refine g_goto h 707 1986 dL_law_707 (by decide) ?_
    exact G_widen (by omega) (by omega) (JE _ _ _ _ hI)
  have hx0 : gxc r = 0 := by
    rcases hx with hx | hx | hx
    · exact hx
    · rw [hx] at hk0; exact absurd hk0 (by decide)
    · rw [hx] at hk0; exact absurd hk0 (by decide)
  have hbr := hb9 hx0
  have hr := (rgX7_fork hF).resolve_left (fun q => q hx0)
  have hov : (if gxc r = 0 then upd2 s1 51 0 r else s1) 51 0 = r := by rw [if_pos hx0]; exact upd2_s
  subst hbr
  refine g_aload_nq h 695 dL_law_695 rfl rfl ?_
  refine g_iconst h 696 dL_law_696 ?_
  refine al_out h 697 dL_law_697 (by decide) ?_
  rw [hov]
  refine g_iload h 698 dL_law_698 rfl ?_
  refine g_i2l h 700 dL_law_700 (gRi hr) ?_
  refine g_lcmp h 701 dL_law_701 (gRi hr) (gRi hr) ?_
  rw [if_neg (Int.lt_irrefl _), if_pos rfl]
  refine g_if_eq h 702 707 gR_0 dL_law_702 (by decide) (fun _ => ?_) (fun q => absurd rfl q)
  refine g_goto h 707 1986 dL_law_707 (by decide) ?_
  exact G_widen (by omega) (by omega) (JE _ _ _ _ hI)
set_option maxRecDepth 100000 in
set_option maxHeartbeats 4000000 in
theorem lc_end {X : gX} {l : Launch} {w : gW} {bs : Nat} (hl : l.stackTraces = false) (h : gOk X "PagewrightLaw" cL_law 7 14 601024 7293033) (hE : gAtX X l w bs) {Ln : Nat} {xs : Nat → Int32} (hX : gScr X Ln xs) (hL9 : Ln ≤ 4608) {Inv : Nat → S2 → S2 → Prop} (HS : gSim_end Inv) (j : Nat) (hj : j < 512) {i : Int} (hi : 0 ≤ i ∧ i + 9 ≤ Ln) (σ μ : S2) (hInv : Inv j σ μ) (JE : ∀ (σ1 μ1 : S2) (z5 z6 : Int), Inv (j + 1) σ1 μ1 → G X (1000 + 8 * (j + 1)) (20000 + 48 * (j + 1)) 1986 [(61, 0), (10, 0), (11, 0), (60, 0), (0, i), (0, z5), (0, z6)] [] (σ1, μ1)) : G X (1000 + 8 * j) (20000 + 48 * j) 710 [(61, 0), (10, 0), (11, 0), (60, 0), (0, i), (1, 0), (1, 0)] [] (σ, μ) := by
  have r1 : -2147483648 ≤ (xs (i + 1).toNat).toInt ∧ (xs (i + 1).toNat).toInt ≤ 2147483647 := gR_toInt _
  obtain ⟨r, s1, b, m1, hF, hG, hx, ht, hb9, hI⟩ := HS j σ μ ((xs (i + 1).toNat).toInt) hInv hj r1
  have hk : 0 ≤ (if gxc r = 0 then 0 else if gxc r = 1 then 1 else 2 : Int) ∧ (if gxc r = 0 then 0 else if gxc r = 1 then 1 else 2 : Int) ≤ 3 := by rcases hx with hx | hx | hx <;> rw [hx] <;> decide
  refine g_aload_nq h 710 dL_law_710 rfl rfl ?_
  refine g_aload_nq h 711 dL_law_711 rfl rfl ?_
  refine g_iload h 712 dL_law_712 rfl ?_
  refine g_iconst h 714 dL_law_714 ?_
  refine g_iadd h 715 dL_law_715 ?_
  refine g_scrld h 716 dL_law_716 hX (by omega) hL9 ?_
  refine g_aload_nq h 717 dL_law_717 rfl rfl ?_
  refine g_callSH (n := 3) h hE 718 dL_law_718 (cw_end hl hF hx) kw_628 kw_100 kw_627 ⟨by decide, by decide, by decide +kernel⟩ (Nat.le_of_ble_eq_true rfl) kw_626 (Nat.le_of_ble_eq_true rfl) rfl (Nat.le_of_ble_eq_true rfl) ⟨by omega, by omega⟩ rfl rfl ?_
  show G X (1000 + 8 * j + 2) (20000 + 48 * j + 6 * 2) 721 [(61, 0), (10, 0), (11, 0), (60, 0), (0, i), (1, 0), (1, 0)] [(0, (if gxc r = 0 then 0 else if gxc r = 1 then 1 else 2 : Int))] ((if gxc r = 0 then upd2 s1 51 0 r else s1), μ)
  refine g_istore h 721 dL_law_721 (Nat.le_of_ble_eq_true rfl) rfl (L' := [(61, 0), (10, 0), (11, 0), (60, 0), (0, i), (0, (if gxc r = 0 then 0 else if gxc r = 1 then 1 else 2 : Int)), (1, 0)]) rfl ?_
  refine g_aload_nq h 723 dL_law_723 rfl rfl ?_
  refine g_aload_nq h 724 dL_law_724 rfl rfl ?_
  refine g_iload h 725 dL_law_725 rfl ?_
  refine g_iconst h 727 dL_law_727 ?_
  refine g_iadd h 728 dL_law_728 ?_
  refine g_scrld h 729 dL_law_729 hX (by omega) hL9 ?_
  refine g_callV0 h hE 730 dL_law_730 (ctX8_end hl hG) mwX8_end kw_1240 (by decide) (by decide) rfl (Nat.le_of_ble_eq_true rfl) rfl (Nat.le_of_ble_eq_true rfl) ⟨by omega, by omega⟩ rfl rfl ?_
  show G X (1000 + 8 * j + 2) (20000 + 48 * j + 6 * 2) 733 [(61, 0), (10, 0), (11, 0), (60, 0), (0, i), (0, (if gxc r = 0 then 0 else if gxc r = 1 then 1 else 2 : Int)), (1, 0)] [(0, b)] ((if gxc r = 0 then upd2 s1 51 0 r else s1), m1)
  refine g_istore h 733 dL_law_733 (Nat.le_of_ble_eq_true rfl) rfl (L' := [(61, 0), (10, 0), (11, 0), (60, 0), (0, i), (0, (if gxc r = 0 then 0 else if gxc r = 1 then 1 else 2 : Int)), (0, b)]) rfl ?_
  refine g_aload_nq h 735 dL_law_735 rfl rfl ?_
  refine g_callV0 h hE 736 dL_law_736 (cpX8_thrown hl) mwX8_thrown kw_1134 (by decide) (by decide) rfl (Nat.le_of_ble_eq_true rfl) rfl (Nat.le_of_ble_eq_true rfl) ⟨by omega, by omega⟩ rfl rfl ?_
  show G X (1000 + 8 * j + 2) (20000 + 48 * j + 6 * 2) 739 [(61, 0), (10, 0), (11, 0), (60, 0), (0, i), (0, (if gxc r = 0 then 0 else if gxc r = 1 then 1 else 2 : Int)), (0, b)] [(0, m1 101 0)] ((if gxc r = 0 then upd2 s1 51 0 r else s1), m1)
  refine g_iload h 739 dL_law_739 rfl ?_
  refine g_icmp_eq h 741 746 (gRi (by omega)) (gRi (by omega)) dL_law_741 (by decide) (fun _ => ?_) (fun q => absurd ht q)
  refine g_iload h 746 dL_law_746 rfl ?_
  refine g_if_ne h 748 763 (gRi (by omega)) dL_law_748 (by decide) (fun _ => ?_) (fun hk0 => ?_)
  · refine g_goto h 763 1986 dL_law_763 (by decide) ?_
    exact G_widen (by omega) (by omega) (JE _ _ _ _ hI)
  have hx0 : gxc r = 0 := by
    rcases hx with hx | hx | hx
    · exact hx
    · rw [hx] at hk0; exact absurd hk0 (by decide)
    · rw [hx] at hk0; exact absurd hk0 (by decide)
  have hbr := hb9 hx0
  have hr := (rgX7_end hF).resolve_left (fun q => q hx0)
  have hov : (if gxc r = 0 then upd2 s1 51 0 r else s1) 51 0 = r := by rw [if_pos hx0]; exact upd2_s
  subst hbr
  refine g_aload_nq h 751 dL_law_751 rfl rfl ?_
  refine g_iconst h 752 dL_law_752 ?_
  refine al_out h 753 dL_law_753 (by decide) ?_
  rw [hov]
  refine g_iload h 754 dL_law_754 rfl ?_
  refine g_i2l h 756 dL_law_756 (gRi hr) ?_
  refine g_lcmp h 757 dL_law_757 (gRi hr) (gRi hr) ?_
  rw [if_neg (Int.lt_irrefl _), if_pos rfl]
  refine g_if_eq h 758 763 gR_0 dL_law_758 (by decide) (fun _ => ?_) (fun q => absurd rfl q)
  refine g_goto h 763 1986 dL_law_763 (by decide) ?_
  exact G_widen (by omega) (by omega) (JE _ _ _ _ hI)
set_option maxRecDepth 100000 in
set_option maxHeartbeats 4000000 in
theorem lc_adjust {X : gX} {l : Launch} {w : gW} {bs : Nat} (hl : l.stackTraces = false) (h : gOk X "PagewrightLaw" cL_law 7 14 601024 7293033) (hE : gAtX X l w bs) {Ln : Nat} {xs : Nat → Int32} (hX : gScr X Ln xs) (hL9 : Ln ≤ 4608) {Inv : Nat → S2 → S2 → Prop} (HS : gSim_adjust Inv) (j : Nat) (hj : j < 512) {i : Int} (hi : 0 ≤ i ∧ i + 9 ≤ Ln) (σ μ : S2) (hInv : Inv j σ μ) (JE : ∀ (σ1 μ1 : S2) (z5 z6 : Int), Inv (j + 1) σ1 μ1 → G X (1000 + 8 * (j + 1)) (20000 + 48 * (j + 1)) 1986 [(61, 0), (10, 0), (11, 0), (60, 0), (0, i), (0, z5), (0, z6)] [] (σ1, μ1)) : G X (1000 + 8 * j) (20000 + 48 * j) 766 [(61, 0), (10, 0), (11, 0), (60, 0), (0, i), (1, 0), (1, 0)] [] (σ, μ) := by
  have r1 : -2147483648 ≤ (xs (i + 1).toNat).toInt ∧ (xs (i + 1).toNat).toInt ≤ 2147483647 := gR_toInt _
  have r2 : -2147483648 ≤ (xs (i + 2).toNat).toInt ∧ (xs (i + 2).toNat).toInt ≤ 2147483647 := gR_toInt _
  obtain ⟨r, s1, b, m1, hF, hG, hx, ht, hb9, hI⟩ := HS j σ μ ((xs (i + 1).toNat).toInt) ((xs (i + 2).toNat).toInt) hInv hj r1 r2
  have hk : 0 ≤ (if gxc r = 0 then 0 else if gxc r = 1 then 1 else 2 : Int) ∧ (if gxc r = 0 then 0 else if gxc r = 1 then 1 else 2 : Int) ≤ 3 := by rcases hx with hx | hx | hx <;> rw [hx] <;> decide
  refine g_aload_nq h 766 dL_law_766 rfl rfl ?_
  refine g_aload_nq h 767 dL_law_767 rfl rfl ?_
  refine g_iload h 768 dL_law_768 rfl ?_
  refine g_iconst h 770 dL_law_770 ?_
  refine g_iadd h 771 dL_law_771 ?_
  refine g_scrld h 772 dL_law_772 hX (by omega) hL9 ?_
  refine g_aload_nq h 773 dL_law_773 rfl rfl ?_
  refine g_iload h 774 dL_law_774 rfl ?_
  refine g_iconst h 776 dL_law_776 ?_
  refine g_iadd h 777 dL_law_777 ?_
  refine g_scrld h 778 dL_law_778 hX (by omega) hL9 ?_
  refine g_aload_nq h 779 dL_law_779 rfl rfl ?_
  refine g_callSH (n := 4) h hE 780 dL_law_780 (cw_adjust hl hF hx) kw_643 kw_100 kw_642 ⟨by decide, by decide, by decide +kernel⟩ (Nat.le_of_ble_eq_true rfl) kw_641 (Nat.le_of_ble_eq_true rfl) rfl (Nat.le_of_ble_eq_true rfl) ⟨by omega, by omega⟩ rfl rfl ?_
  show G X (1000 + 8 * j + 2) (20000 + 48 * j + 6 * 2) 783 [(61, 0), (10, 0), (11, 0), (60, 0), (0, i), (1, 0), (1, 0)] [(0, (if gxc r = 0 then 0 else if gxc r = 1 then 1 else 2 : Int))] ((if gxc r = 0 then upd2 s1 51 0 r else s1), μ)
  refine g_istore h 783 dL_law_783 (Nat.le_of_ble_eq_true rfl) rfl (L' := [(61, 0), (10, 0), (11, 0), (60, 0), (0, i), (0, (if gxc r = 0 then 0 else if gxc r = 1 then 1 else 2 : Int)), (1, 0)]) rfl ?_
  refine g_aload_nq h 785 dL_law_785 rfl rfl ?_
  refine g_aload_nq h 786 dL_law_786 rfl rfl ?_
  refine g_iload h 787 dL_law_787 rfl ?_
  refine g_iconst h 789 dL_law_789 ?_
  refine g_iadd h 790 dL_law_790 ?_
  refine g_scrld h 791 dL_law_791 hX (by omega) hL9 ?_
  refine g_aload_nq h 792 dL_law_792 rfl rfl ?_
  refine g_iload h 793 dL_law_793 rfl ?_
  refine g_iconst h 795 dL_law_795 ?_
  refine g_iadd h 796 dL_law_796 ?_
  refine g_scrld h 797 dL_law_797 hX (by omega) hL9 ?_
  refine g_callV0 h hE 798 dL_law_798 (ctX8_adjust hl hG) mwX8_adjust kw_1252 (by decide) (by decide) rfl (Nat.le_of_ble_eq_true rfl) rfl (Nat.le_of_ble_eq_true rfl) ⟨by omega, by omega⟩ rfl rfl ?_
  show G X (1000 + 8 * j + 2) (20000 + 48 * j + 6 * 2) 801 [(61, 0), (10, 0), (11, 0), (60, 0), (0, i), (0, (if gxc r = 0 then 0 else if gxc r = 1 then 1 else 2 : Int)), (1, 0)] [(0, b)] ((if gxc r = 0 then upd2 s1 51 0 r else s1), m1)
  refine g_istore h 801 dL_law_801 (Nat.le_of_ble_eq_true rfl) rfl (L' := [(61, 0), (10, 0), (11, 0), (60, 0), (0, i), (0, (if gxc r = 0 then 0 else if gxc r = 1 then 1 else 2 : Int)), (0, b)]) rfl ?_
  refine g_aload_nq h 803 dL_law_803 rfl rfl ?_
  refine g_callV0 h hE 804 dL_law_804 (cpX8_thrown hl) mwX8_thrown kw_1134 (by decide) (by decide) rfl (Nat.le_of_ble_eq_true rfl) rfl (Nat.le_of_ble_eq_true rfl) ⟨by omega, by omega⟩ rfl rfl ?_
  show G X (1000 + 8 * j + 2) (20000 + 48 * j + 6 * 2) 807 [(61, 0), (10, 0), (11, 0), (60, 0), (0, i), (0, (if gxc r = 0 then 0 else if gxc r = 1 then 1 else 2 : Int)), (0, b)] [(0, m1 101 0)] ((if gxc r = 0 then upd2 s1 51 0 r else s1), m1)
  refine g_iload h 807 dL_law_807 rfl ?_
  refine g_icmp_eq h 809 814 (gRi (by omega)) (gRi (by omega)) dL_law_809 (by decide) (fun _ => ?_) (fun q => absurd ht q)
  refine g_iload h 814 dL_law_814 rfl ?_
  refine g_if_ne h 816 831 (gRi (by omega)) dL_law_816 (by decide) (fun _ => ?_) (fun hk0 => ?_)
  · refine g_goto h 831 1986 dL_law_831 (by decide) ?_
    exact G_widen (by omega) (by omega) (JE _ _ _ _ hI)
  have hx0 : gxc r = 0 := by
    rcases hx with hx | hx | hx
    · exact hx
    · rw [hx] at hk0; exact absurd hk0 (by decide)
    · rw [hx] at hk0; exact absurd hk0 (by decide)
  have hbr := hb9 hx0
  have hr := (rgX7_adjust hF).resolve_left (fun q => q hx0)
  have hov : (if gxc r = 0 then upd2 s1 51 0 r else s1) 51 0 = r := by rw [if_pos hx0]; exact upd2_s
  subst hbr
  refine g_aload_nq h 819 dL_law_819 rfl rfl ?_
  refine g_iconst h 820 dL_law_820 ?_
  refine al_out h 821 dL_law_821 (by decide) ?_
  rw [hov]
  refine g_iload h 822 dL_law_822 rfl ?_
  refine g_i2l h 824 dL_law_824 (gRi hr) ?_
  refine g_lcmp h 825 dL_law_825 (gRi hr) (gRi hr) ?_
  rw [if_neg (Int.lt_irrefl _), if_pos rfl]
  refine g_if_eq h 826 831 gR_0 dL_law_826 (by decide) (fun _ => ?_) (fun q => absurd rfl q)
  refine g_goto h 831 1986 dL_law_831 (by decide) ?_
  exact G_widen (by omega) (by omega) (JE _ _ _ _ hI)
set_option maxRecDepth 100000 in
set_option maxHeartbeats 4000000 in
theorem lc_limit {X : gX} {l : Launch} {w : gW} {bs : Nat} (hl : l.stackTraces = false) (h : gOk X "PagewrightLaw" cL_law 7 14 601024 7293033) (hE : gAtX X l w bs) {Ln : Nat} {xs : Nat → Int32} (hX : gScr X Ln xs) (hL9 : Ln ≤ 4608) {Inv : Nat → S2 → S2 → Prop} (HS : gSim_limit Inv) (j : Nat) (hj : j < 512) {i : Int} (hi : 0 ≤ i ∧ i + 9 ≤ Ln) (σ μ : S2) (hInv : Inv j σ μ) (JE : ∀ (σ1 μ1 : S2) (z5 z6 : Int), Inv (j + 1) σ1 μ1 → G X (1000 + 8 * (j + 1)) (20000 + 48 * (j + 1)) 1986 [(61, 0), (10, 0), (11, 0), (60, 0), (0, i), (0, z5), (0, z6)] [] (σ1, μ1)) : G X (1000 + 8 * j) (20000 + 48 * j) 834 [(61, 0), (10, 0), (11, 0), (60, 0), (0, i), (1, 0), (1, 0)] [] (σ, μ) := by
  have r1 : -2147483648 ≤ (xs (i + 1).toNat).toInt ∧ (xs (i + 1).toNat).toInt ≤ 2147483647 := gR_toInt _
  have r2 : -2147483648 ≤ (xs (i + 2).toNat).toInt ∧ (xs (i + 2).toNat).toInt ≤ 2147483647 := gR_toInt _
  obtain ⟨r, s1, b, m1, hF, hG, hx, ht, hb9, hI⟩ := HS j σ μ ((xs (i + 1).toNat).toInt) ((xs (i + 2).toNat).toInt) hInv hj r1 r2
  have hk : 0 ≤ (if gxc r = 0 then 0 else 1 : Int) ∧ (if gxc r = 0 then 0 else 1 : Int) ≤ 3 := by rcases hx with hx | hx <;> rw [hx] <;> decide
  refine g_aload_nq h 834 dL_law_834 rfl rfl ?_
  refine g_aload_nq h 835 dL_law_835 rfl rfl ?_
  refine g_iload h 836 dL_law_836 rfl ?_
  refine g_iconst h 838 dL_law_838 ?_
  refine g_iadd h 839 dL_law_839 ?_
  refine g_scrld h 840 dL_law_840 hX (by omega) hL9 ?_
  refine g_aload_nq h 841 dL_law_841 rfl rfl ?_
  refine g_iload h 842 dL_law_842 rfl ?_
  refine g_iconst h 844 dL_law_844 ?_
  refine g_iadd h 845 dL_law_845 ?_
  refine g_scrld h 846 dL_law_846 hX (by omega) hL9 ?_
  refine g_aload_nq h 847 dL_law_847 rfl rfl ?_
  refine g_callSH (n := 4) h hE 848 dL_law_848 (cw_limit hl hF hx) kw_650 kw_100 kw_649 ⟨by decide, by decide, by decide +kernel⟩ (Nat.le_of_ble_eq_true rfl) kw_648 (Nat.le_of_ble_eq_true rfl) rfl (Nat.le_of_ble_eq_true rfl) ⟨by omega, by omega⟩ rfl rfl ?_
  show G X (1000 + 8 * j + 1) (20000 + 48 * j + 6 * 1) 851 [(61, 0), (10, 0), (11, 0), (60, 0), (0, i), (1, 0), (1, 0)] [(0, (if gxc r = 0 then 0 else 1 : Int))] ((if gxc r = 0 then upd2 s1 51 0 r else s1), μ)
  refine g_istore h 851 dL_law_851 (Nat.le_of_ble_eq_true rfl) rfl (L' := [(61, 0), (10, 0), (11, 0), (60, 0), (0, i), (0, (if gxc r = 0 then 0 else 1 : Int)), (1, 0)]) rfl ?_
  refine g_aload_nq h 853 dL_law_853 rfl rfl ?_
  refine g_aload_nq h 854 dL_law_854 rfl rfl ?_
  refine g_iload h 855 dL_law_855 rfl ?_
  refine g_iconst h 857 dL_law_857 ?_
  refine g_iadd h 858 dL_law_858 ?_
  refine g_scrld h 859 dL_law_859 hX (by omega) hL9 ?_
  refine g_aload_nq h 860 dL_law_860 rfl rfl ?_
  refine g_iload h 861 dL_law_861 rfl ?_
  refine g_iconst h 863 dL_law_863 ?_
  refine g_iadd h 864 dL_law_864 ?_
  refine g_scrld h 865 dL_law_865 hX (by omega) hL9 ?_
  refine g_callV0 h hE 866 dL_law_866 (ctX8_limit hl hG) mwX8_limit kw_1256 (by decide) (by decide) rfl (Nat.le_of_ble_eq_true rfl) rfl (Nat.le_of_ble_eq_true rfl) ⟨by omega, by omega⟩ rfl rfl ?_
  show G X (1000 + 8 * j + 1) (20000 + 48 * j + 6 * 1) 869 [(61, 0), (10, 0), (11, 0), (60, 0), (0, i), (0, (if gxc r = 0 then 0 else 1 : Int)), (1, 0)] [(0, b)] ((if gxc r = 0 then upd2 s1 51 0 r else s1), m1)
  refine g_istore h 869 dL_law_869 (Nat.le_of_ble_eq_true rfl) rfl (L' := [(61, 0), (10, 0), (11, 0), (60, 0), (0, i), (0, (if gxc r = 0 then 0 else 1 : Int)), (0, b)]) rfl ?_
  refine g_aload_nq h 871 dL_law_871 rfl rfl ?_
  refine g_callV0 h hE 872 dL_law_872 (cpX8_thrown hl) mwX8_thrown kw_1134 (by decide) (by decide) rfl (Nat.le_of_ble_eq_true rfl) rfl (Nat.le_of_ble_eq_true rfl) ⟨by omega, by omega⟩ rfl rfl ?_
  show G X (1000 + 8 * j + 1) (20000 + 48 * j + 6 * 1) 875 [(61, 0), (10, 0), (11, 0), (60, 0), (0, i), (0, (if gxc r = 0 then 0 else 1 : Int)), (0, b)] [(0, m1 101 0)] ((if gxc r = 0 then upd2 s1 51 0 r else s1), m1)
  refine g_iload h 875 dL_law_875 rfl ?_
  refine g_icmp_eq h 877 882 (gRi (by omega)) (gRi (by omega)) dL_law_877 (by decide) (fun _ => ?_) (fun q => absurd ht q)
  refine g_iload h 882 dL_law_882 rfl ?_
  refine g_if_ne h 884 899 (gRi (by omega)) dL_law_884 (by decide) (fun _ => ?_) (fun hk0 => ?_)
  · refine g_goto h 899 1986 dL_law_899 (by decide) ?_
    exact G_widen (by omega) (by omega) (JE _ _ _ _ hI)
  have hx0 : gxc r = 0 := by
    rcases hx with hx | hx
    · exact hx
    · rw [hx] at hk0; exact absurd hk0 (by decide)
  have hbr := hb9 hx0
  have hr := (rgX7_limit hF).resolve_left (fun q => q hx0)
  have hov : (if gxc r = 0 then upd2 s1 51 0 r else s1) 51 0 = r := by rw [if_pos hx0]; exact upd2_s
  subst hbr
  refine g_aload_nq h 887 dL_law_887 rfl rfl ?_
  refine g_iconst h 888 dL_law_888 ?_
  refine al_out h 889 dL_law_889 (by decide) ?_
  rw [hov]
  refine g_iload h 890 dL_law_890 rfl ?_
  refine g_i2l h 892 dL_law_892 (gRi hr) ?_
  refine g_lcmp h 893 dL_law_893 (gRi hr) (gRi hr) ?_
  rw [if_neg (Int.lt_irrefl _), if_pos rfl]
  refine g_if_eq h 894 899 gR_0 dL_law_894 (by decide) (fun _ => ?_) (fun q => absurd rfl q)
  refine g_goto h 899 1986 dL_law_899 (by decide) ?_
  exact G_widen (by omega) (by omega) (JE _ _ _ _ hI)
set_option maxRecDepth 100000 in
set_option maxHeartbeats 4000000 in
theorem lc_load {X : gX} {l : Launch} {w : gW} {bs : Nat} (hl : l.stackTraces = false) (h : gOk X "PagewrightLaw" cL_law 7 14 601024 7293033) (hE : gAtX X l w bs) {Ln : Nat} {xs : Nat → Int32} (hX : gScr X Ln xs) (hL9 : Ln ≤ 4608) {Inv : Nat → S2 → S2 → Prop} (HS : gSim_load Inv) (j : Nat) (hj : j < 512) {i : Int} (hi : 0 ≤ i ∧ i + 9 ≤ Ln) (σ μ : S2) (hInv : Inv j σ μ) (JE : ∀ (σ1 μ1 : S2) (z5 z6 : Int), Inv (j + 1) σ1 μ1 → G X (1000 + 8 * (j + 1)) (20000 + 48 * (j + 1)) 1986 [(61, 0), (10, 0), (11, 0), (60, 0), (0, i), (0, z5), (0, z6)] [] (σ1, μ1)) : G X (1000 + 8 * j) (20000 + 48 * j) 902 [(61, 0), (10, 0), (11, 0), (60, 0), (0, i), (1, 0), (1, 0)] [] (σ, μ) := by
  have r1 : -2147483648 ≤ (xs (i + 1).toNat).toInt ∧ (xs (i + 1).toNat).toInt ≤ 2147483647 := gR_toInt _
  have r2 : -2147483648 ≤ (xs (i + 2).toNat).toInt ∧ (xs (i + 2).toNat).toInt ≤ 2147483647 := gR_toInt _
  have r3 : -2147483648 ≤ (xs (i + 3).toNat).toInt ∧ (xs (i + 3).toNat).toInt ≤ 2147483647 := gR_toInt _
  obtain ⟨r, s1, b, m1, hF, hG, hx, ht, hb9, hI⟩ := HS j σ μ ((xs (i + 1).toNat).toInt) ((xs (i + 2).toNat).toInt) ((xs (i + 3).toNat).toInt) hInv hj r1 r2 r3
  have hk : 0 ≤ (if gxc r = 0 then 0 else if gxc r = 1 then 1 else if gxc r = 2 then 2 else 3 : Int) ∧ (if gxc r = 0 then 0 else if gxc r = 1 then 1 else if gxc r = 2 then 2 else 3 : Int) ≤ 3 := by rcases hx with hx | hx | hx | hx <;> rw [hx] <;> decide
  refine g_aload_nq h 902 dL_law_902 rfl rfl ?_
  refine g_aload_nq h 903 dL_law_903 rfl rfl ?_
  refine g_iload h 904 dL_law_904 rfl ?_
  refine g_iconst h 906 dL_law_906 ?_
  refine g_iadd h 907 dL_law_907 ?_
  refine g_scrld h 908 dL_law_908 hX (by omega) hL9 ?_
  refine g_aload_nq h 909 dL_law_909 rfl rfl ?_
  refine g_iload h 910 dL_law_910 rfl ?_
  refine g_iconst h 912 dL_law_912 ?_
  refine g_iadd h 913 dL_law_913 ?_
  refine g_scrld h 914 dL_law_914 hX (by omega) hL9 ?_
  refine g_aload_nq h 915 dL_law_915 rfl rfl ?_
  refine g_iload h 916 dL_law_916 rfl ?_
  refine g_iconst h 918 dL_law_918 ?_
  refine g_iadd h 919 dL_law_919 ?_
  refine g_scrld h 920 dL_law_920 hX (by omega) hL9 ?_
  refine g_aload_nq h 921 dL_law_921 rfl rfl ?_
  refine g_callSH (n := 5) h hE 922 dL_law_922 (cw_load hl hF hx) kw_669 kw_100 kw_668 ⟨by decide, by decide, by decide +kernel⟩ (Nat.le_of_ble_eq_true rfl) kw_667 (Nat.le_of_ble_eq_true rfl) rfl (Nat.le_of_ble_eq_true rfl) ⟨by omega, by omega⟩ rfl rfl ?_
  show G X (1000 + 8 * j + 4) (20000 + 48 * j + 6 * 4) 925 [(61, 0), (10, 0), (11, 0), (60, 0), (0, i), (1, 0), (1, 0)] [(0, (if gxc r = 0 then 0 else if gxc r = 1 then 1 else if gxc r = 2 then 2 else 3 : Int))] ((if gxc r = 0 then upd2 s1 51 0 r else s1), μ)
  refine g_istore h 925 dL_law_925 (Nat.le_of_ble_eq_true rfl) rfl (L' := [(61, 0), (10, 0), (11, 0), (60, 0), (0, i), (0, (if gxc r = 0 then 0 else if gxc r = 1 then 1 else if gxc r = 2 then 2 else 3 : Int)), (1, 0)]) rfl ?_
  refine g_aload_nq h 927 dL_law_927 rfl rfl ?_
  refine g_aload_nq h 928 dL_law_928 rfl rfl ?_
  refine g_iload h 929 dL_law_929 rfl ?_
  refine g_iconst h 931 dL_law_931 ?_
  refine g_iadd h 932 dL_law_932 ?_
  refine g_scrld h 933 dL_law_933 hX (by omega) hL9 ?_
  refine g_aload_nq h 934 dL_law_934 rfl rfl ?_
  refine g_iload h 935 dL_law_935 rfl ?_
  refine g_iconst h 937 dL_law_937 ?_
  refine g_iadd h 938 dL_law_938 ?_
  refine g_scrld h 939 dL_law_939 hX (by omega) hL9 ?_
  refine g_aload_nq h 940 dL_law_940 rfl rfl ?_
  refine g_iload h 941 dL_law_941 rfl ?_
  refine g_iconst h 943 dL_law_943 ?_
  refine g_iadd h 944 dL_law_944 ?_
  refine g_scrld h 945 dL_law_945 hX (by omega) hL9 ?_
  refine g_callV0 h hE 946 dL_law_946 (ctX8_load hl hG) mwX8_load kw_1272 (by decide) (by decide) rfl (Nat.le_of_ble_eq_true rfl) rfl (Nat.le_of_ble_eq_true rfl) ⟨by omega, by omega⟩ rfl rfl ?_
  show G X (1000 + 8 * j + 4) (20000 + 48 * j + 6 * 4) 949 [(61, 0), (10, 0), (11, 0), (60, 0), (0, i), (0, (if gxc r = 0 then 0 else if gxc r = 1 then 1 else if gxc r = 2 then 2 else 3 : Int)), (1, 0)] [(0, b)] ((if gxc r = 0 then upd2 s1 51 0 r else s1), m1)
  refine g_istore h 949 dL_law_949 (Nat.le_of_ble_eq_true rfl) rfl (L' := [(61, 0), (10, 0), (11, 0), (60, 0), (0, i), (0, (if gxc r = 0 then 0 else if gxc r = 1 then 1 else if gxc r = 2 then 2 else 3 : Int)), (0, b)]) rfl ?_
  refine g_aload_nq h 951 dL_law_951 rfl rfl ?_
  refine g_callV0 h hE 952 dL_law_952 (cpX8_thrown hl) mwX8_thrown kw_1134 (by decide) (by decide) rfl (Nat.le_of_ble_eq_true rfl) rfl (Nat.le_of_ble_eq_true rfl) ⟨by omega, by omega⟩ rfl rfl ?_
  show G X (1000 + 8 * j + 4) (20000 + 48 * j + 6 * 4) 955 [(61, 0), (10, 0), (11, 0), (60, 0), (0, i), (0, (if gxc r = 0 then 0 else if gxc r = 1 then 1 else if gxc r = 2 then 2 else 3 : Int)), (0, b)] [(0, m1 101 0)] ((if gxc r = 0 then upd2 s1 51 0 r else s1), m1)
  refine g_iload h 955 dL_law_955 rfl ?_
  refine g_icmp_eq h 957 962 (gRi (by omega)) (gRi (by omega)) dL_law_957 (by decide) (fun _ => ?_) (fun q => absurd ht q)
  refine g_iload h 962 dL_law_962 rfl ?_
  refine g_if_ne h 964 979 (gRi (by omega)) dL_law_964 (by decide) (fun _ => ?_) (fun hk0 => ?_)
  · refine g_goto h 979 1986 dL_law_979 (by decide) ?_
    exact G_widen (by omega) (by omega) (JE _ _ _ _ hI)
  have hx0 : gxc r = 0 := by
    rcases hx with hx | hx | hx | hx
    · exact hx
    · rw [hx] at hk0; exact absurd hk0 (by decide)
    · rw [hx] at hk0; exact absurd hk0 (by decide)
    · rw [hx] at hk0; exact absurd hk0 (by decide)
  have hbr := hb9 hx0
  have hr := (rgX7_load hF).resolve_left (fun q => q hx0)
  have hov : (if gxc r = 0 then upd2 s1 51 0 r else s1) 51 0 = r := by rw [if_pos hx0]; exact upd2_s
  subst hbr
  refine g_aload_nq h 967 dL_law_967 rfl rfl ?_
  refine g_iconst h 968 dL_law_968 ?_
  refine al_out h 969 dL_law_969 (by decide) ?_
  rw [hov]
  refine g_iload h 970 dL_law_970 rfl ?_
  refine g_i2l h 972 dL_law_972 (gRi hr) ?_
  refine g_lcmp h 973 dL_law_973 (gRi hr) (gRi hr) ?_
  rw [if_neg (Int.lt_irrefl _), if_pos rfl]
  refine g_if_eq h 974 979 gR_0 dL_law_974 (by decide) (fun _ => ?_) (fun q => absurd rfl q)
  refine g_goto h 979 1986 dL_law_979 (by decide) ?_
  exact G_widen (by omega) (by omega) (JE _ _ _ _ hI)
set_option maxRecDepth 100000 in
set_option maxHeartbeats 4000000 in
theorem lc_store {X : gX} {l : Launch} {w : gW} {bs : Nat} (hl : l.stackTraces = false) (h : gOk X "PagewrightLaw" cL_law 7 14 601024 7293033) (hE : gAtX X l w bs) {Ln : Nat} {xs : Nat → Int32} (hX : gScr X Ln xs) (hL9 : Ln ≤ 4608) {Inv : Nat → S2 → S2 → Prop} (HS : gSim_store Inv) (j : Nat) (hj : j < 512) {i : Int} (hi : 0 ≤ i ∧ i + 9 ≤ Ln) (σ μ : S2) (hInv : Inv j σ μ) (JE : ∀ (σ1 μ1 : S2) (z5 z6 : Int), Inv (j + 1) σ1 μ1 → G X (1000 + 8 * (j + 1)) (20000 + 48 * (j + 1)) 1986 [(61, 0), (10, 0), (11, 0), (60, 0), (0, i), (0, z5), (0, z6)] [] (σ1, μ1)) : G X (1000 + 8 * j) (20000 + 48 * j) 982 [(61, 0), (10, 0), (11, 0), (60, 0), (0, i), (1, 0), (1, 0)] [] (σ, μ) := by
  have r1 : -2147483648 ≤ (xs (i + 1).toNat).toInt ∧ (xs (i + 1).toNat).toInt ≤ 2147483647 := gR_toInt _
  have r2 : -2147483648 ≤ (xs (i + 2).toNat).toInt ∧ (xs (i + 2).toNat).toInt ≤ 2147483647 := gR_toInt _
  have r3 : -2147483648 ≤ (xs (i + 3).toNat).toInt ∧ (xs (i + 3).toNat).toInt ≤ 2147483647 := gR_toInt _
  have r4 : -2147483648 ≤ (xs (i + 4).toNat).toInt ∧ (xs (i + 4).toNat).toInt ≤ 2147483647 := gR_toInt _
  obtain ⟨r, s1, b, m1, hF, hG, hx, ht, hb9, hI⟩ := HS j σ μ ((xs (i + 1).toNat).toInt) ((xs (i + 2).toNat).toInt) ((xs (i + 3).toNat).toInt) ((xs (i + 4).toNat).toInt) hInv hj r1 r2 r3 r4
  have hk : 0 ≤ (if gxc r = 0 then 0 else if gxc r = 1 then 1 else if gxc r = 2 then 2 else 3 : Int) ∧ (if gxc r = 0 then 0 else if gxc r = 1 then 1 else if gxc r = 2 then 2 else 3 : Int) ≤ 3 := by rcases hx with hx | hx | hx | hx <;> rw [hx] <;> decide
  refine g_aload_nq h 982 dL_law_982 rfl rfl ?_
  refine g_aload_nq h 983 dL_law_983 rfl rfl ?_
  refine g_iload h 984 dL_law_984 rfl ?_
  refine g_iconst h 986 dL_law_986 ?_
  refine g_iadd h 987 dL_law_987 ?_
  refine g_scrld h 988 dL_law_988 hX (by omega) hL9 ?_
  refine g_aload_nq h 989 dL_law_989 rfl rfl ?_
  refine g_iload h 990 dL_law_990 rfl ?_
  refine g_iconst h 992 dL_law_992 ?_
  refine g_iadd h 993 dL_law_993 ?_
  refine g_scrld h 994 dL_law_994 hX (by omega) hL9 ?_
  refine g_aload_nq h 995 dL_law_995 rfl rfl ?_
  refine g_iload h 996 dL_law_996 rfl ?_
  refine g_iconst h 998 dL_law_998 ?_
  refine g_iadd h 999 dL_law_999 ?_
  refine g_scrld h 1000 dL_law_1000 hX (by omega) hL9 ?_
  refine g_aload_nq h 1001 dL_law_1001 rfl rfl ?_
  refine g_iload h 1002 dL_law_1002 rfl ?_
  refine g_iconst h 1004 dL_law_1004 ?_
  refine g_iadd h 1005 dL_law_1005 ?_
  refine g_scrld h 1006 dL_law_1006 hX (by omega) hL9 ?_
  refine g_aload_nq h 1007 dL_law_1007 rfl rfl ?_
  refine g_callSH (n := 6) h hE 1008 dL_law_1008 (cw_store hl hF hx) kw_821 kw_100 kw_820 ⟨by decide, by decide, by decide +kernel⟩ (Nat.le_of_ble_eq_true rfl) kw_819 (Nat.le_of_ble_eq_true rfl) rfl (Nat.le_of_ble_eq_true rfl) ⟨by omega, by omega⟩ rfl rfl ?_
  show G X (1000 + 8 * j + 4) (20000 + 48 * j + 6 * 4) 1011 [(61, 0), (10, 0), (11, 0), (60, 0), (0, i), (1, 0), (1, 0)] [(0, (if gxc r = 0 then 0 else if gxc r = 1 then 1 else if gxc r = 2 then 2 else 3 : Int))] ((if gxc r = 0 then upd2 s1 51 0 r else s1), μ)
  refine g_istore h 1011 dL_law_1011 (Nat.le_of_ble_eq_true rfl) rfl (L' := [(61, 0), (10, 0), (11, 0), (60, 0), (0, i), (0, (if gxc r = 0 then 0 else if gxc r = 1 then 1 else if gxc r = 2 then 2 else 3 : Int)), (1, 0)]) rfl ?_
  refine g_aload_nq h 1013 dL_law_1013 rfl rfl ?_
  refine g_aload_nq h 1014 dL_law_1014 rfl rfl ?_
  refine g_iload h 1015 dL_law_1015 rfl ?_
  refine g_iconst h 1017 dL_law_1017 ?_
  refine g_iadd h 1018 dL_law_1018 ?_
  refine g_scrld h 1019 dL_law_1019 hX (by omega) hL9 ?_
  refine g_aload_nq h 1020 dL_law_1020 rfl rfl ?_
  refine g_iload h 1021 dL_law_1021 rfl ?_
  refine g_iconst h 1023 dL_law_1023 ?_
  refine g_iadd h 1024 dL_law_1024 ?_
  refine g_scrld h 1025 dL_law_1025 hX (by omega) hL9 ?_
  refine g_aload_nq h 1026 dL_law_1026 rfl rfl ?_
  refine g_iload h 1027 dL_law_1027 rfl ?_
  refine g_iconst h 1029 dL_law_1029 ?_
  refine g_iadd h 1030 dL_law_1030 ?_
  refine g_scrld h 1031 dL_law_1031 hX (by omega) hL9 ?_
  refine g_aload_nq h 1032 dL_law_1032 rfl rfl ?_
  refine g_iload h 1033 dL_law_1033 rfl ?_
  refine g_iconst h 1035 dL_law_1035 ?_
  refine g_iadd h 1036 dL_law_1036 ?_
  refine g_scrld h 1037 dL_law_1037 hX (by omega) hL9 ?_
  refine g_callV0 h hE 1038 dL_law_1038 (ctX8_store hl hG) mwX8_store kw_1372 (by decide) (by decide) rfl (Nat.le_of_ble_eq_true rfl) rfl (Nat.le_of_ble_eq_true rfl) ⟨by omega, by omega⟩ rfl rfl ?_
  show G X (1000 + 8 * j + 4) (20000 + 48 * j + 6 * 4) 1041 [(61, 0), (10, 0), (11, 0), (60, 0), (0, i), (0, (if gxc r = 0 then 0 else if gxc r = 1 then 1 else if gxc r = 2 then 2 else 3 : Int)), (1, 0)] [(0, b)] ((if gxc r = 0 then upd2 s1 51 0 r else s1), m1)
  refine g_istore h 1041 dL_law_1041 (Nat.le_of_ble_eq_true rfl) rfl (L' := [(61, 0), (10, 0), (11, 0), (60, 0), (0, i), (0, (if gxc r = 0 then 0 else if gxc r = 1 then 1 else if gxc r = 2 then 2 else 3 : Int)), (0, b)]) rfl ?_
  refine g_aload_nq h 1043 dL_law_1043 rfl rfl ?_
  refine g_callV0 h hE 1044 dL_law_1044 (cpX8_thrown hl) mwX8_thrown kw_1134 (by decide) (by decide) rfl (Nat.le_of_ble_eq_true rfl) rfl (Nat.le_of_ble_eq_true rfl) ⟨by omega, by omega⟩ rfl rfl ?_
  show G X (1000 + 8 * j + 4) (20000 + 48 * j + 6 * 4) 1047 [(61, 0), (10, 0), (11, 0), (60, 0), (0, i), (0, (if gxc r = 0 then 0 else if gxc r = 1 then 1 else if gxc r = 2 then 2 else 3 : Int)), (0, b)] [(0, m1 101 0)] ((if gxc r = 0 then upd2 s1 51 0 r else s1), m1)
  refine g_iload h 1047 dL_law_1047 rfl ?_
  refine g_icmp_eq h 1049 1054 (gRi (by omega)) (gRi (by omega)) dL_law_1049 (by decide) (fun _ => ?_) (fun q => absurd ht q)
  refine g_iload h 1054 dL_law_1054 rfl ?_
  refine g_if_ne h 1056 1071 (gRi (by omega)) dL_law_1056 (by decide) (fun _ => ?_) (fun hk0 => ?_)
  · refine g_goto h 1071 1986 dL_law_1071 (by decide) ?_
    exact G_widen (by omega) (by omega) (JE _ _ _ _ hI)
  have hx0 : gxc r = 0 := by
    rcases hx with hx | hx | hx | hx
    · exact hx
    · rw [hx] at hk0; exact absurd hk0 (by decide)
    · rw [hx] at hk0; exact absurd hk0 (by decide)
    · rw [hx] at hk0; exact absurd hk0 (by decide)
  have hbr := hb9 hx0
  have hr := (rgX7_store hF).resolve_left (fun q => q hx0)
  have hov : (if gxc r = 0 then upd2 s1 51 0 r else s1) 51 0 = r := by rw [if_pos hx0]; exact upd2_s
  subst hbr
  refine g_aload_nq h 1059 dL_law_1059 rfl rfl ?_
  refine g_iconst h 1060 dL_law_1060 ?_
  refine al_out h 1061 dL_law_1061 (by decide) ?_
  rw [hov]
  refine g_iload h 1062 dL_law_1062 rfl ?_
  refine g_i2l h 1064 dL_law_1064 (gRi hr) ?_
  refine g_lcmp h 1065 dL_law_1065 (gRi hr) (gRi hr) ?_
  rw [if_neg (Int.lt_irrefl _), if_pos rfl]
  refine g_if_eq h 1066 1071 gR_0 dL_law_1066 (by decide) (fun _ => ?_) (fun q => absurd rfl q)
  refine g_goto h 1071 1986 dL_law_1071 (by decide) ?_
  exact G_widen (by omega) (by omega) (JE _ _ _ _ hI)
set_option maxRecDepth 100000 in
set_option maxHeartbeats 4000000 in
theorem lc_read {X : gX} {l : Launch} {w : gW} {bs : Nat} (hl : l.stackTraces = false) (h : gOk X "PagewrightLaw" cL_law 7 14 601024 7293033) (hE : gAtX X l w bs) {Ln : Nat} {xs : Nat → Int32} (hX : gScr X Ln xs) (hL9 : Ln ≤ 4608) {Inv : Nat → S2 → S2 → Prop} (HS : gSim_read Inv) (j : Nat) (hj : j < 512) {i : Int} (hi : 0 ≤ i ∧ i + 9 ≤ Ln) (σ μ : S2) (hInv : Inv j σ μ) (JE : ∀ (σ1 μ1 : S2) (z5 z6 : Int), Inv (j + 1) σ1 μ1 → G X (1000 + 8 * (j + 1)) (20000 + 48 * (j + 1)) 1986 [(61, 0), (10, 0), (11, 0), (60, 0), (0, i), (0, z5), (0, z6)] [] (σ1, μ1)) : G X (1000 + 8 * j) (20000 + 48 * j) 1074 [(61, 0), (10, 0), (11, 0), (60, 0), (0, i), (1, 0), (1, 0)] [] (σ, μ) := by
  have r1 : -2147483648 ≤ (xs (i + 1).toNat).toInt ∧ (xs (i + 1).toNat).toInt ≤ 2147483647 := gR_toInt _
  have r2 : -2147483648 ≤ (xs (i + 2).toNat).toInt ∧ (xs (i + 2).toNat).toInt ≤ 2147483647 := gR_toInt _
  obtain ⟨r, s1, b, m1, hF, hG, hx, ht, hb9, hI⟩ := HS j σ μ ((xs (i + 1).toNat).toInt) ((xs (i + 2).toNat).toInt) hInv hj r1 r2
  have hk : 0 ≤ (if gxc r = 0 then 0 else 1 : Int) ∧ (if gxc r = 0 then 0 else 1 : Int) ≤ 3 := by rcases hx with hx | hx <;> rw [hx] <;> decide
  refine g_aload_nq h 1074 dL_law_1074 rfl rfl ?_
  refine g_aload_nq h 1075 dL_law_1075 rfl rfl ?_
  refine g_iload h 1076 dL_law_1076 rfl ?_
  refine g_iconst h 1078 dL_law_1078 ?_
  refine g_iadd h 1079 dL_law_1079 ?_
  refine g_scrld h 1080 dL_law_1080 hX (by omega) hL9 ?_
  refine g_aload_nq h 1081 dL_law_1081 rfl rfl ?_
  refine g_iload h 1082 dL_law_1082 rfl ?_
  refine g_iconst h 1084 dL_law_1084 ?_
  refine g_iadd h 1085 dL_law_1085 ?_
  refine g_scrld h 1086 dL_law_1086 hX (by omega) hL9 ?_
  refine g_aload_nq h 1087 dL_law_1087 rfl rfl ?_
  refine g_callSH (n := 4) h hE 1088 dL_law_1088 (cw_read hl hF hx) kw_829 kw_100 kw_828 ⟨by decide, by decide, by decide +kernel⟩ (Nat.le_of_ble_eq_true rfl) kw_827 (Nat.le_of_ble_eq_true rfl) rfl (Nat.le_of_ble_eq_true rfl) ⟨by omega, by omega⟩ rfl rfl ?_
  show G X (1000 + 8 * j + 1) (20000 + 48 * j + 6 * 1) 1091 [(61, 0), (10, 0), (11, 0), (60, 0), (0, i), (1, 0), (1, 0)] [(0, (if gxc r = 0 then 0 else 1 : Int))] ((if gxc r = 0 then upd2 s1 51 0 r else s1), μ)
  refine g_istore h 1091 dL_law_1091 (Nat.le_of_ble_eq_true rfl) rfl (L' := [(61, 0), (10, 0), (11, 0), (60, 0), (0, i), (0, (if gxc r = 0 then 0 else 1 : Int)), (1, 0)]) rfl ?_
  refine g_aload_nq h 1093 dL_law_1093 rfl rfl ?_
  refine g_aload_nq h 1094 dL_law_1094 rfl rfl ?_
  refine g_iload h 1095 dL_law_1095 rfl ?_
  refine g_iconst h 1097 dL_law_1097 ?_
  refine g_iadd h 1098 dL_law_1098 ?_
  refine g_scrld h 1099 dL_law_1099 hX (by omega) hL9 ?_
  refine g_aload_nq h 1100 dL_law_1100 rfl rfl ?_
  refine g_iload h 1101 dL_law_1101 rfl ?_
  refine g_iconst h 1103 dL_law_1103 ?_
  refine g_iadd h 1104 dL_law_1104 ?_
  refine g_scrld h 1105 dL_law_1105 hX (by omega) hL9 ?_
  refine g_callV0 h hE 1106 dL_law_1106 (ctX8_read hl hG) mwX8_read kw_1377 (by decide) (by decide) rfl (Nat.le_of_ble_eq_true rfl) rfl (Nat.le_of_ble_eq_true rfl) ⟨by omega, by omega⟩ rfl rfl ?_
  show G X (1000 + 8 * j + 1) (20000 + 48 * j + 6 * 1) 1109 [(61, 0), (10, 0), (11, 0), (60, 0), (0, i), (0, (if gxc r = 0 then 0 else 1 : Int)), (1, 0)] [(0, b)] ((if gxc r = 0 then upd2 s1 51 0 r else s1), m1)
  refine g_istore h 1109 dL_law_1109 (Nat.le_of_ble_eq_true rfl) rfl (L' := [(61, 0), (10, 0), (11, 0), (60, 0), (0, i), (0, (if gxc r = 0 then 0 else 1 : Int)), (0, b)]) rfl ?_
  refine g_aload_nq h 1111 dL_law_1111 rfl rfl ?_
  refine g_callV0 h hE 1112 dL_law_1112 (cpX8_thrown hl) mwX8_thrown kw_1134 (by decide) (by decide) rfl (Nat.le_of_ble_eq_true rfl) rfl (Nat.le_of_ble_eq_true rfl) ⟨by omega, by omega⟩ rfl rfl ?_
  show G X (1000 + 8 * j + 1) (20000 + 48 * j + 6 * 1) 1115 [(61, 0), (10, 0), (11, 0), (60, 0), (0, i), (0, (if gxc r = 0 then 0 else 1 : Int)), (0, b)] [(0, m1 101 0)] ((if gxc r = 0 then upd2 s1 51 0 r else s1), m1)
  refine g_iload h 1115 dL_law_1115 rfl ?_
  refine g_icmp_eq h 1117 1122 (gRi (by omega)) (gRi (by omega)) dL_law_1117 (by decide) (fun _ => ?_) (fun q => absurd ht q)
  refine g_iload h 1122 dL_law_1122 rfl ?_
  refine g_if_ne h 1124 1139 (gRi (by omega)) dL_law_1124 (by decide) (fun _ => ?_) (fun hk0 => ?_)
  · refine g_goto h 1139 1986 dL_law_1139 (by decide) ?_
    exact G_widen (by omega) (by omega) (JE _ _ _ _ hI)
  have hx0 : gxc r = 0 := by
    rcases hx with hx | hx
    · exact hx
    · rw [hx] at hk0; exact absurd hk0 (by decide)
  have hbr := hb9 hx0
  have hr := (rgX7_read hF).resolve_left (fun q => q hx0)
  have hov : (if gxc r = 0 then upd2 s1 51 0 r else s1) 51 0 = r := by rw [if_pos hx0]; exact upd2_s
  subst hbr
  refine g_aload_nq h 1127 dL_law_1127 rfl rfl ?_
  refine g_iconst h 1128 dL_law_1128 ?_
  refine al_out h 1129 dL_law_1129 (by decide) ?_
  rw [hov]
  refine g_iload h 1130 dL_law_1130 rfl ?_
  refine g_i2l h 1132 dL_law_1132 (gRi hr) ?_
  refine g_lcmp h 1133 dL_law_1133 (gRi hr) (gRi hr) ?_
  rw [if_neg (Int.lt_irrefl _), if_pos rfl]
  refine g_if_eq h 1134 1139 gR_0 dL_law_1134 (by decide) (fun _ => ?_) (fun q => absurd rfl q)
  refine g_goto h 1139 1986 dL_law_1139 (by decide) ?_
  exact G_widen (by omega) (by omega) (JE _ _ _ _ hI)
set_option maxRecDepth 100000 in
set_option maxHeartbeats 4000000 in
theorem lc_write {X : gX} {l : Launch} {w : gW} {bs : Nat} (hl : l.stackTraces = false) (h : gOk X "PagewrightLaw" cL_law 7 14 601024 7293033) (hE : gAtX X l w bs) {Ln : Nat} {xs : Nat → Int32} (hX : gScr X Ln xs) (hL9 : Ln ≤ 4608) {Inv : Nat → S2 → S2 → Prop} (HS : gSim_write Inv) (j : Nat) (hj : j < 512) {i : Int} (hi : 0 ≤ i ∧ i + 9 ≤ Ln) (σ μ : S2) (hInv : Inv j σ μ) (JE : ∀ (σ1 μ1 : S2) (z5 z6 : Int), Inv (j + 1) σ1 μ1 → G X (1000 + 8 * (j + 1)) (20000 + 48 * (j + 1)) 1986 [(61, 0), (10, 0), (11, 0), (60, 0), (0, i), (0, z5), (0, z6)] [] (σ1, μ1)) : G X (1000 + 8 * j) (20000 + 48 * j) 1142 [(61, 0), (10, 0), (11, 0), (60, 0), (0, i), (1, 0), (1, 0)] [] (σ, μ) := by
  have r1 : -2147483648 ≤ (xs (i + 1).toNat).toInt ∧ (xs (i + 1).toNat).toInt ≤ 2147483647 := gR_toInt _
  have r2 : -2147483648 ≤ (xs (i + 2).toNat).toInt ∧ (xs (i + 2).toNat).toInt ≤ 2147483647 := gR_toInt _
  have r3 : -2147483648 ≤ (xs (i + 3).toNat).toInt ∧ (xs (i + 3).toNat).toInt ≤ 2147483647 := gR_toInt _
  obtain ⟨r, s1, b, m1, hF, hG, hx, ht, hb9, hI⟩ := HS j σ μ ((xs (i + 1).toNat).toInt) ((xs (i + 2).toNat).toInt) ((xs (i + 3).toNat).toInt) hInv hj r1 r2 r3
  have hk : 0 ≤ (if gxc r = 0 then 0 else 1 : Int) ∧ (if gxc r = 0 then 0 else 1 : Int) ≤ 3 := by rcases hx with hx | hx <;> rw [hx] <;> decide
  refine g_aload_nq h 1142 dL_law_1142 rfl rfl ?_
  refine g_aload_nq h 1143 dL_law_1143 rfl rfl ?_
  refine g_iload h 1144 dL_law_1144 rfl ?_
  refine g_iconst h 1146 dL_law_1146 ?_
  refine g_iadd h 1147 dL_law_1147 ?_
  refine g_scrld h 1148 dL_law_1148 hX (by omega) hL9 ?_
  refine g_aload_nq h 1149 dL_law_1149 rfl rfl ?_
  refine g_iload h 1150 dL_law_1150 rfl ?_
  refine g_iconst h 1152 dL_law_1152 ?_
  refine g_iadd h 1153 dL_law_1153 ?_
  refine g_scrld h 1154 dL_law_1154 hX (by omega) hL9 ?_
  refine g_aload_nq h 1155 dL_law_1155 rfl rfl ?_
  refine g_iload h 1156 dL_law_1156 rfl ?_
  refine g_iconst h 1158 dL_law_1158 ?_
  refine g_iadd h 1159 dL_law_1159 ?_
  refine g_scrld h 1160 dL_law_1160 hX (by omega) hL9 ?_
  refine g_aload_nq h 1161 dL_law_1161 rfl rfl ?_
  refine g_callSH (n := 5) h hE 1162 dL_law_1162 (cw_write hl hF hx) kw_843 kw_100 kw_842 ⟨by decide, by decide, by decide +kernel⟩ (Nat.le_of_ble_eq_true rfl) kw_841 (Nat.le_of_ble_eq_true rfl) rfl (Nat.le_of_ble_eq_true rfl) ⟨by omega, by omega⟩ rfl rfl ?_
  show G X (1000 + 8 * j + 1) (20000 + 48 * j + 6 * 1) 1165 [(61, 0), (10, 0), (11, 0), (60, 0), (0, i), (1, 0), (1, 0)] [(0, (if gxc r = 0 then 0 else 1 : Int))] ((if gxc r = 0 then upd2 s1 51 0 r else s1), μ)
  refine g_istore h 1165 dL_law_1165 (Nat.le_of_ble_eq_true rfl) rfl (L' := [(61, 0), (10, 0), (11, 0), (60, 0), (0, i), (0, (if gxc r = 0 then 0 else 1 : Int)), (1, 0)]) rfl ?_
  refine g_aload_nq h 1167 dL_law_1167 rfl rfl ?_
  refine g_aload_nq h 1168 dL_law_1168 rfl rfl ?_
  refine g_iload h 1169 dL_law_1169 rfl ?_
  refine g_iconst h 1171 dL_law_1171 ?_
  refine g_iadd h 1172 dL_law_1172 ?_
  refine g_scrld h 1173 dL_law_1173 hX (by omega) hL9 ?_
  refine g_aload_nq h 1174 dL_law_1174 rfl rfl ?_
  refine g_iload h 1175 dL_law_1175 rfl ?_
  refine g_iconst h 1177 dL_law_1177 ?_
  refine g_iadd h 1178 dL_law_1178 ?_
  refine g_scrld h 1179 dL_law_1179 hX (by omega) hL9 ?_
  refine g_aload_nq h 1180 dL_law_1180 rfl rfl ?_
  refine g_iload h 1181 dL_law_1181 rfl ?_
  refine g_iconst h 1183 dL_law_1183 ?_
  refine g_iadd h 1184 dL_law_1184 ?_
  refine g_scrld h 1185 dL_law_1185 hX (by omega) hL9 ?_
  refine g_callV0 h hE 1186 dL_law_1186 (ctX8_write hl hG) mwX8_write kw_1384 (by decide) (by decide) rfl (Nat.le_of_ble_eq_true rfl) rfl (Nat.le_of_ble_eq_true rfl) ⟨by omega, by omega⟩ rfl rfl ?_
  show G X (1000 + 8 * j + 1) (20000 + 48 * j + 6 * 1) 1189 [(61, 0), (10, 0), (11, 0), (60, 0), (0, i), (0, (if gxc r = 0 then 0 else 1 : Int)), (1, 0)] [(0, b)] ((if gxc r = 0 then upd2 s1 51 0 r else s1), m1)
  refine g_istore h 1189 dL_law_1189 (Nat.le_of_ble_eq_true rfl) rfl (L' := [(61, 0), (10, 0), (11, 0), (60, 0), (0, i), (0, (if gxc r = 0 then 0 else 1 : Int)), (0, b)]) rfl ?_
  refine g_aload_nq h 1191 dL_law_1191 rfl rfl ?_
  refine g_callV0 h hE 1192 dL_law_1192 (cpX8_thrown hl) mwX8_thrown kw_1134 (by decide) (by decide) rfl (Nat.le_of_ble_eq_true rfl) rfl (Nat.le_of_ble_eq_true rfl) ⟨by omega, by omega⟩ rfl rfl ?_
  show G X (1000 + 8 * j + 1) (20000 + 48 * j + 6 * 1) 1195 [(61, 0), (10, 0), (11, 0), (60, 0), (0, i), (0, (if gxc r = 0 then 0 else 1 : Int)), (0, b)] [(0, m1 101 0)] ((if gxc r = 0 then upd2 s1 51 0 r else s1), m1)
  refine g_iload h 1195 dL_law_1195 rfl ?_
  refine g_icmp_eq h 1197 1202 (gRi (by omega)) (gRi (by omega)) dL_law_1197 (by decide) (fun _ => ?_) (fun q => absurd ht q)
  refine g_iload h 1202 dL_law_1202 rfl ?_
  refine g_if_ne h 1204 1219 (gRi (by omega)) dL_law_1204 (by decide) (fun _ => ?_) (fun hk0 => ?_)
  · refine g_goto h 1219 1986 dL_law_1219 (by decide) ?_
    exact G_widen (by omega) (by omega) (JE _ _ _ _ hI)
  have hx0 : gxc r = 0 := by
    rcases hx with hx | hx
    · exact hx
    · rw [hx] at hk0; exact absurd hk0 (by decide)
  have hbr := hb9 hx0
  have hr := (rgX7_write hF).resolve_left (fun q => q hx0)
  have hov : (if gxc r = 0 then upd2 s1 51 0 r else s1) 51 0 = r := by rw [if_pos hx0]; exact upd2_s
  subst hbr
  refine g_aload_nq h 1207 dL_law_1207 rfl rfl ?_
  refine g_iconst h 1208 dL_law_1208 ?_
  refine al_out h 1209 dL_law_1209 (by decide) ?_
  rw [hov]
  refine g_iload h 1210 dL_law_1210 rfl ?_
  refine g_i2l h 1212 dL_law_1212 (gRi hr) ?_
  refine g_lcmp h 1213 dL_law_1213 (gRi hr) (gRi hr) ?_
  rw [if_neg (Int.lt_irrefl _), if_pos rfl]
  refine g_if_eq h 1214 1219 gR_0 dL_law_1214 (by decide) (fun _ => ?_) (fun q => absurd rfl q)
  refine g_goto h 1219 1986 dL_law_1219 (by decide) ?_
  exact G_widen (by omega) (by omega) (JE _ _ _ _ hI)
set_option maxRecDepth 100000 in
set_option maxHeartbeats 4000000 in
theorem lc_sync {X : gX} {l : Launch} {w : gW} {bs : Nat} (hl : l.stackTraces = false) (h : gOk X "PagewrightLaw" cL_law 7 14 601024 7293033) (hE : gAtX X l w bs) {Ln : Nat} {xs : Nat → Int32} (hX : gScr X Ln xs) (hL9 : Ln ≤ 4608) {Inv : Nat → S2 → S2 → Prop} (HS : gSim_sync Inv) (j : Nat) (hj : j < 512) {i : Int} (hi : 0 ≤ i ∧ i + 9 ≤ Ln) (σ μ : S2) (hInv : Inv j σ μ) (JE : ∀ (σ1 μ1 : S2) (z5 z6 : Int), Inv (j + 1) σ1 μ1 → G X (1000 + 8 * (j + 1)) (20000 + 48 * (j + 1)) 1986 [(61, 0), (10, 0), (11, 0), (60, 0), (0, i), (0, z5), (0, z6)] [] (σ1, μ1)) : G X (1000 + 8 * j) (20000 + 48 * j) 1222 [(61, 0), (10, 0), (11, 0), (60, 0), (0, i), (1, 0), (1, 0)] [] (σ, μ) := by
  have r1 : -2147483648 ≤ (xs (i + 1).toNat).toInt ∧ (xs (i + 1).toNat).toInt ≤ 2147483647 := gR_toInt _
  obtain ⟨r, s1, b, m1, hF, hG, hx, ht, hb9, hI⟩ := HS j σ μ ((xs (i + 1).toNat).toInt) hInv hj r1
  have hk : 0 ≤ (if gxc r = 0 then 0 else 1 : Int) ∧ (if gxc r = 0 then 0 else 1 : Int) ≤ 3 := by rcases hx with hx | hx <;> rw [hx] <;> decide
  refine g_aload_nq h 1222 dL_law_1222 rfl rfl ?_
  refine g_aload_nq h 1223 dL_law_1223 rfl rfl ?_
  refine g_iload h 1224 dL_law_1224 rfl ?_
  refine g_iconst h 1226 dL_law_1226 ?_
  refine g_iadd h 1227 dL_law_1227 ?_
  refine g_scrld h 1228 dL_law_1228 hX (by omega) hL9 ?_
  refine g_aload_nq h 1229 dL_law_1229 rfl rfl ?_
  refine g_callSH (n := 3) h hE 1230 dL_law_1230 (cw_sync hl hF hx) kw_850 kw_100 kw_849 ⟨by decide, by decide, by decide +kernel⟩ (Nat.le_of_ble_eq_true rfl) kw_848 (Nat.le_of_ble_eq_true rfl) rfl (Nat.le_of_ble_eq_true rfl) ⟨by omega, by omega⟩ rfl rfl ?_
  show G X (1000 + 8 * j + 1) (20000 + 48 * j + 6 * 1) 1233 [(61, 0), (10, 0), (11, 0), (60, 0), (0, i), (1, 0), (1, 0)] [(0, (if gxc r = 0 then 0 else 1 : Int))] ((if gxc r = 0 then upd2 s1 51 0 r else s1), μ)
  refine g_istore h 1233 dL_law_1233 (Nat.le_of_ble_eq_true rfl) rfl (L' := [(61, 0), (10, 0), (11, 0), (60, 0), (0, i), (0, (if gxc r = 0 then 0 else 1 : Int)), (1, 0)]) rfl ?_
  refine g_aload_nq h 1235 dL_law_1235 rfl rfl ?_
  refine g_aload_nq h 1236 dL_law_1236 rfl rfl ?_
  refine g_iload h 1237 dL_law_1237 rfl ?_
  refine g_iconst h 1239 dL_law_1239 ?_
  refine g_iadd h 1240 dL_law_1240 ?_
  refine g_scrld h 1241 dL_law_1241 hX (by omega) hL9 ?_
  refine g_callV0 h hE 1242 dL_law_1242 (ctX8_sync hl hG) mwX8_sync kw_1388 (by decide) (by decide) rfl (Nat.le_of_ble_eq_true rfl) rfl (Nat.le_of_ble_eq_true rfl) ⟨by omega, by omega⟩ rfl rfl ?_
  show G X (1000 + 8 * j + 1) (20000 + 48 * j + 6 * 1) 1245 [(61, 0), (10, 0), (11, 0), (60, 0), (0, i), (0, (if gxc r = 0 then 0 else 1 : Int)), (1, 0)] [(0, b)] ((if gxc r = 0 then upd2 s1 51 0 r else s1), m1)
  refine g_istore h 1245 dL_law_1245 (Nat.le_of_ble_eq_true rfl) rfl (L' := [(61, 0), (10, 0), (11, 0), (60, 0), (0, i), (0, (if gxc r = 0 then 0 else 1 : Int)), (0, b)]) rfl ?_
  refine g_aload_nq h 1247 dL_law_1247 rfl rfl ?_
  refine g_callV0 h hE 1248 dL_law_1248 (cpX8_thrown hl) mwX8_thrown kw_1134 (by decide) (by decide) rfl (Nat.le_of_ble_eq_true rfl) rfl (Nat.le_of_ble_eq_true rfl) ⟨by omega, by omega⟩ rfl rfl ?_
  show G X (1000 + 8 * j + 1) (20000 + 48 * j + 6 * 1) 1251 [(61, 0), (10, 0), (11, 0), (60, 0), (0, i), (0, (if gxc r = 0 then 0 else 1 : Int)), (0, b)] [(0, m1 101 0)] ((if gxc r = 0 then upd2 s1 51 0 r else s1), m1)
  refine g_iload h 1251 dL_law_1251 rfl ?_
  refine g_icmp_eq h 1253 1258 (gRi (by omega)) (gRi (by omega)) dL_law_1253 (by decide) (fun _ => ?_) (fun q => absurd ht q)
  refine g_iload h 1258 dL_law_1258 rfl ?_
  refine g_if_ne h 1260 1275 (gRi (by omega)) dL_law_1260 (by decide) (fun _ => ?_) (fun hk0 => ?_)
  · refine g_goto h 1275 1986 dL_law_1275 (by decide) ?_
    exact G_widen (by omega) (by omega) (JE _ _ _ _ hI)
  have hx0 : gxc r = 0 := by
    rcases hx with hx | hx
    · exact hx
    · rw [hx] at hk0; exact absurd hk0 (by decide)
  have hbr := hb9 hx0
  have hr := (rgX7_sync hF).resolve_left (fun q => q hx0)
  have hov : (if gxc r = 0 then upd2 s1 51 0 r else s1) 51 0 = r := by rw [if_pos hx0]; exact upd2_s
  subst hbr
  refine g_aload_nq h 1263 dL_law_1263 rfl rfl ?_
  refine g_iconst h 1264 dL_law_1264 ?_
  refine al_out h 1265 dL_law_1265 (by decide) ?_
  rw [hov]
  refine g_iload h 1266 dL_law_1266 rfl ?_
  refine g_i2l h 1268 dL_law_1268 (gRi hr) ?_
  refine g_lcmp h 1269 dL_law_1269 (gRi hr) (gRi hr) ?_
  rw [if_neg (Int.lt_irrefl _), if_pos rfl]
  refine g_if_eq h 1270 1275 gR_0 dL_law_1270 (by decide) (fun _ => ?_) (fun q => absurd rfl q)
  refine g_goto h 1275 1986 dL_law_1275 (by decide) ?_
  exact G_widen (by omega) (by omega) (JE _ _ _ _ hI)
set_option maxRecDepth 100000 in
set_option maxHeartbeats 4000000 in
theorem lc_disk {X : gX} {l : Launch} {w : gW} {bs : Nat} (hl : l.stackTraces = false) (h : gOk X "PagewrightLaw" cL_law 7 14 601024 7293033) (hE : gAtX X l w bs) {Ln : Nat} {xs : Nat → Int32} (hX : gScr X Ln xs) (hL9 : Ln ≤ 4608) {Inv : Nat → S2 → S2 → Prop} (HS : gSim_disk Inv) (j : Nat) (hj : j < 512) {i : Int} (hi : 0 ≤ i ∧ i + 9 ≤ Ln) (σ μ : S2) (hInv : Inv j σ μ) (JE : ∀ (σ1 μ1 : S2) (z5 z6 : Int), Inv (j + 1) σ1 μ1 → G X (1000 + 8 * (j + 1)) (20000 + 48 * (j + 1)) 1986 [(61, 0), (10, 0), (11, 0), (60, 0), (0, i), (0, z5), (0, z6)] [] (σ1, μ1)) : G X (1000 + 8 * j) (20000 + 48 * j) 1278 [(61, 0), (10, 0), (11, 0), (60, 0), (0, i), (1, 0), (1, 0)] [] (σ, μ) := by
  have r1 : -2147483648 ≤ (xs (i + 1).toNat).toInt ∧ (xs (i + 1).toNat).toInt ≤ 2147483647 := gR_toInt _
  have r2 : -2147483648 ≤ (xs (i + 2).toNat).toInt ∧ (xs (i + 2).toNat).toInt ≤ 2147483647 := gR_toInt _
  obtain ⟨r, s1, b, m1, hF, hG, hx, ht, hb9, hI⟩ := HS j σ μ ((xs (i + 1).toNat).toInt) ((xs (i + 2).toNat).toInt) hInv hj r1 r2
  have hk : 0 ≤ (if gxc r = 0 then 0 else 1 : Int) ∧ (if gxc r = 0 then 0 else 1 : Int) ≤ 3 := by rcases hx with hx | hx <;> rw [hx] <;> decide
  refine g_aload_nq h 1278 dL_law_1278 rfl rfl ?_
  refine g_aload_nq h 1279 dL_law_1279 rfl rfl ?_
  refine g_iload h 1280 dL_law_1280 rfl ?_
  refine g_iconst h 1282 dL_law_1282 ?_
  refine g_iadd h 1283 dL_law_1283 ?_
  refine g_scrld h 1284 dL_law_1284 hX (by omega) hL9 ?_
  refine g_aload_nq h 1285 dL_law_1285 rfl rfl ?_
  refine g_iload h 1286 dL_law_1286 rfl ?_
  refine g_iconst h 1288 dL_law_1288 ?_
  refine g_iadd h 1289 dL_law_1289 ?_
  refine g_scrld h 1290 dL_law_1290 hX (by omega) hL9 ?_
  refine g_aload_nq h 1291 dL_law_1291 rfl rfl ?_
  refine g_callSH (n := 4) h hE 1292 dL_law_1292 (cw_disk hl hF hx) kw_861 kw_100 kw_860 ⟨by decide, by decide, by decide +kernel⟩ (Nat.le_of_ble_eq_true rfl) kw_859 (Nat.le_of_ble_eq_true rfl) rfl (Nat.le_of_ble_eq_true rfl) ⟨by omega, by omega⟩ rfl rfl ?_
  show G X (1000 + 8 * j + 1) (20000 + 48 * j + 6 * 1) 1295 [(61, 0), (10, 0), (11, 0), (60, 0), (0, i), (1, 0), (1, 0)] [(0, (if gxc r = 0 then 0 else 1 : Int))] ((if gxc r = 0 then upd2 s1 51 0 r else s1), μ)
  refine g_istore h 1295 dL_law_1295 (Nat.le_of_ble_eq_true rfl) rfl (L' := [(61, 0), (10, 0), (11, 0), (60, 0), (0, i), (0, (if gxc r = 0 then 0 else 1 : Int)), (1, 0)]) rfl ?_
  refine g_aload_nq h 1297 dL_law_1297 rfl rfl ?_
  refine g_aload_nq h 1298 dL_law_1298 rfl rfl ?_
  refine g_iload h 1299 dL_law_1299 rfl ?_
  refine g_iconst h 1301 dL_law_1301 ?_
  refine g_iadd h 1302 dL_law_1302 ?_
  refine g_scrld h 1303 dL_law_1303 hX (by omega) hL9 ?_
  refine g_aload_nq h 1304 dL_law_1304 rfl rfl ?_
  refine g_iload h 1305 dL_law_1305 rfl ?_
  refine g_iconst h 1307 dL_law_1307 ?_
  refine g_iadd h 1308 dL_law_1308 ?_
  refine g_scrld h 1309 dL_law_1309 hX (by omega) hL9 ?_
  refine g_callV0 h hE 1310 dL_law_1310 (ctX8_disk hl hG) mwX8_disk kw_1392 (by decide) (by decide) rfl (Nat.le_of_ble_eq_true rfl) rfl (Nat.le_of_ble_eq_true rfl) ⟨by omega, by omega⟩ rfl rfl ?_
  show G X (1000 + 8 * j + 1) (20000 + 48 * j + 6 * 1) 1313 [(61, 0), (10, 0), (11, 0), (60, 0), (0, i), (0, (if gxc r = 0 then 0 else 1 : Int)), (1, 0)] [(0, b)] ((if gxc r = 0 then upd2 s1 51 0 r else s1), m1)
  refine g_istore h 1313 dL_law_1313 (Nat.le_of_ble_eq_true rfl) rfl (L' := [(61, 0), (10, 0), (11, 0), (60, 0), (0, i), (0, (if gxc r = 0 then 0 else 1 : Int)), (0, b)]) rfl ?_
  refine g_aload_nq h 1315 dL_law_1315 rfl rfl ?_
  refine g_callV0 h hE 1316 dL_law_1316 (cpX8_thrown hl) mwX8_thrown kw_1134 (by decide) (by decide) rfl (Nat.le_of_ble_eq_true rfl) rfl (Nat.le_of_ble_eq_true rfl) ⟨by omega, by omega⟩ rfl rfl ?_
  show G X (1000 + 8 * j + 1) (20000 + 48 * j + 6 * 1) 1319 [(61, 0), (10, 0), (11, 0), (60, 0), (0, i), (0, (if gxc r = 0 then 0 else 1 : Int)), (0, b)] [(0, m1 101 0)] ((if gxc r = 0 then upd2 s1 51 0 r else s1), m1)
  refine g_iload h 1319 dL_law_1319 rfl ?_
  refine g_icmp_eq h 1321 1326 (gRi (by omega)) (gRi (by omega)) dL_law_1321 (by decide) (fun _ => ?_) (fun q => absurd ht q)
  refine g_iload h 1326 dL_law_1326 rfl ?_
  refine g_if_ne h 1328 1343 (gRi (by omega)) dL_law_1328 (by decide) (fun _ => ?_) (fun hk0 => ?_)
  · refine g_goto h 1343 1986 dL_law_1343 (by decide) ?_
    exact G_widen (by omega) (by omega) (JE _ _ _ _ hI)
  have hx0 : gxc r = 0 := by
    rcases hx with hx | hx
    · exact hx
    · rw [hx] at hk0; exact absurd hk0 (by decide)
  have hbr := hb9 hx0
  have hr := (rgX7_disk hF).resolve_left (fun q => q hx0)
  have hov : (if gxc r = 0 then upd2 s1 51 0 r else s1) 51 0 = r := by rw [if_pos hx0]; exact upd2_s
  subst hbr
  refine g_aload_nq h 1331 dL_law_1331 rfl rfl ?_
  refine g_iconst h 1332 dL_law_1332 ?_
  refine al_out h 1333 dL_law_1333 (by decide) ?_
  rw [hov]
  refine g_iload h 1334 dL_law_1334 rfl ?_
  refine g_i2l h 1336 dL_law_1336 (gRi hr) ?_
  refine g_lcmp h 1337 dL_law_1337 (gRi hr) (gRi hr) ?_
  rw [if_neg (Int.lt_irrefl _), if_pos rfl]
  refine g_if_eq h 1338 1343 gR_0 dL_law_1338 (by decide) (fun _ => ?_) (fun q => absurd rfl q)
  refine g_goto h 1343 1986 dL_law_1343 (by decide) ?_
  exact G_widen (by omega) (by omega) (JE _ _ _ _ hI)
set_option maxRecDepth 100000 in
set_option maxHeartbeats 4000000 in
theorem lc_reclaim {X : gX} {l : Launch} {w : gW} {bs : Nat} (hl : l.stackTraces = false) (h : gOk X "PagewrightLaw" cL_law 7 14 601024 7293033) (hE : gAtX X l w bs) {Ln : Nat} {xs : Nat → Int32} (hX : gScr X Ln xs) (hL9 : Ln ≤ 4608) {Inv : Nat → S2 → S2 → Prop} (HS : gSim_reclaim Inv) (j : Nat) (hj : j < 512) {i : Int} (hi : 0 ≤ i ∧ i + 9 ≤ Ln) (σ μ : S2) (hInv : Inv j σ μ) (JE : ∀ (σ1 μ1 : S2) (z5 z6 : Int), Inv (j + 1) σ1 μ1 → G X (1000 + 8 * (j + 1)) (20000 + 48 * (j + 1)) 1986 [(61, 0), (10, 0), (11, 0), (60, 0), (0, i), (0, z5), (0, z6)] [] (σ1, μ1)) : G X (1000 + 8 * j) (20000 + 48 * j) 1346 [(61, 0), (10, 0), (11, 0), (60, 0), (0, i), (1, 0), (1, 0)] [] (σ, μ) := by
  have r1 : -2147483648 ≤ (xs (i + 1).toNat).toInt ∧ (xs (i + 1).toNat).toInt ≤ 2147483647 := gR_toInt _
  obtain ⟨r, s1, b, m1, hF, hG, hx, ht, hb9, hI⟩ := HS j σ μ ((xs (i + 1).toNat).toInt) hInv hj r1
  have hk : 0 ≤ (if gxc r = 0 then 0 else 1 : Int) ∧ (if gxc r = 0 then 0 else 1 : Int) ≤ 3 := by rcases hx with hx | hx <;> rw [hx] <;> decide
  refine g_aload_nq h 1346 dL_law_1346 rfl rfl ?_
  refine g_aload_nq h 1347 dL_law_1347 rfl rfl ?_
  refine g_iload h 1348 dL_law_1348 rfl ?_
  refine g_iconst h 1350 dL_law_1350 ?_
  refine g_iadd h 1351 dL_law_1351 ?_
  refine g_scrld h 1352 dL_law_1352 hX (by omega) hL9 ?_
  refine g_aload_nq h 1353 dL_law_1353 rfl rfl ?_
  refine g_callSH (n := 3) h hE 1354 dL_law_1354 (cw_reclaim hl hF hx) kw_868 kw_100 kw_867 ⟨by decide, by decide, by decide +kernel⟩ (Nat.le_of_ble_eq_true rfl) kw_866 (Nat.le_of_ble_eq_true rfl) rfl (Nat.le_of_ble_eq_true rfl) ⟨by omega, by omega⟩ rfl rfl ?_
  show G X (1000 + 8 * j + 1) (20000 + 48 * j + 6 * 1) 1357 [(61, 0), (10, 0), (11, 0), (60, 0), (0, i), (1, 0), (1, 0)] [(0, (if gxc r = 0 then 0 else 1 : Int))] ((if gxc r = 0 then upd2 s1 51 0 r else s1), μ)
  refine g_istore h 1357 dL_law_1357 (Nat.le_of_ble_eq_true rfl) rfl (L' := [(61, 0), (10, 0), (11, 0), (60, 0), (0, i), (0, (if gxc r = 0 then 0 else 1 : Int)), (1, 0)]) rfl ?_
  refine g_aload_nq h 1359 dL_law_1359 rfl rfl ?_
  refine g_aload_nq h 1360 dL_law_1360 rfl rfl ?_
  refine g_iload h 1361 dL_law_1361 rfl ?_
  refine g_iconst h 1363 dL_law_1363 ?_
  refine g_iadd h 1364 dL_law_1364 ?_
  refine g_scrld h 1365 dL_law_1365 hX (by omega) hL9 ?_
  refine g_callV0 h hE 1366 dL_law_1366 (ctX8_reclaim hl hG) mwX8_reclaim kw_1396 (by decide) (by decide) rfl (Nat.le_of_ble_eq_true rfl) rfl (Nat.le_of_ble_eq_true rfl) ⟨by omega, by omega⟩ rfl rfl ?_
  show G X (1000 + 8 * j + 1) (20000 + 48 * j + 6 * 1) 1369 [(61, 0), (10, 0), (11, 0), (60, 0), (0, i), (0, (if gxc r = 0 then 0 else 1 : Int)), (1, 0)] [(0, b)] ((if gxc r = 0 then upd2 s1 51 0 r else s1), m1)
  refine g_istore h 1369 dL_law_1369 (Nat.le_of_ble_eq_true rfl) rfl (L' := [(61, 0), (10, 0), (11, 0), (60, 0), (0, i), (0, (if gxc r = 0 then 0 else 1 : Int)), (0, b)]) rfl ?_
  refine g_aload_nq h 1371 dL_law_1371 rfl rfl ?_
  refine g_callV0 h hE 1372 dL_law_1372 (cpX8_thrown hl) mwX8_thrown kw_1134 (by decide) (by decide) rfl (Nat.le_of_ble_eq_true rfl) rfl (Nat.le_of_ble_eq_true rfl) ⟨by omega, by omega⟩ rfl rfl ?_
  show G X (1000 + 8 * j + 1) (20000 + 48 * j + 6 * 1) 1375 [(61, 0), (10, 0), (11, 0), (60, 0), (0, i), (0, (if gxc r = 0 then 0 else 1 : Int)), (0, b)] [(0, m1 101 0)] ((if gxc r = 0 then upd2 s1 51 0 r else s1), m1)
  refine g_iload h 1375 dL_law_1375 rfl ?_
  refine g_icmp_eq h 1377 1382 (gRi (by omega)) (gRi (by omega)) dL_law_1377 (by decide) (fun _ => ?_) (fun q => absurd ht q)
  refine g_iload h 1382 dL_law_1382 rfl ?_
  refine g_if_ne h 1384 1399 (gRi (by omega)) dL_law_1384 (by decide) (fun _ => ?_) (fun hk0 => ?_)
  · refine g_goto h 1399 1986 dL_law_1399 (by decide) ?_
    exact G_widen (by omega) (by omega) (JE _ _ _ _ hI)
  have hx0 : gxc r = 0 := by
    rcases hx with hx | hx
    · exact hx
    · rw [hx] at hk0; exact absurd hk0 (by decide)
  have hbr := hb9 hx0
  have hr := (rgX7_reclaim hF).resolve_left (fun q => q hx0)
  have hov : (if gxc r = 0 then upd2 s1 51 0 r else s1) 51 0 = r := by rw [if_pos hx0]; exact upd2_s
  subst hbr
  refine g_aload_nq h 1387 dL_law_1387 rfl rfl ?_
  refine g_iconst h 1388 dL_law_1388 ?_
  refine al_out h 1389 dL_law_1389 (by decide) ?_
  rw [hov]
  refine g_iload h 1390 dL_law_1390 rfl ?_
  refine g_i2l h 1392 dL_law_1392 (gRi hr) ?_
  refine g_lcmp h 1393 dL_law_1393 (gRi hr) (gRi hr) ?_
  rw [if_neg (Int.lt_irrefl _), if_pos rfl]
  refine g_if_eq h 1394 1399 gR_0 dL_law_1394 (by decide) (fun _ => ?_) (fun q => absurd rfl q)
  refine g_goto h 1399 1986 dL_law_1399 (by decide) ?_
  exact G_widen (by omega) (by omega) (JE _ _ _ _ hI)
set_option maxRecDepth 100000 in
set_option maxHeartbeats 4000000 in
theorem lc_handle {X : gX} {l : Launch} {w : gW} {bs : Nat} (hl : l.stackTraces = false) (h : gOk X "PagewrightLaw" cL_law 7 14 601024 7293033) (hE : gAtX X l w bs) {Ln : Nat} {xs : Nat → Int32} (hX : gScr X Ln xs) (hL9 : Ln ≤ 4608) {Inv : Nat → S2 → S2 → Prop} (HS : gSim_handle Inv) (j : Nat) (hj : j < 512) {i : Int} (hi : 0 ≤ i ∧ i + 9 ≤ Ln) (σ μ : S2) (hInv : Inv j σ μ) (JE : ∀ (σ1 μ1 : S2) (z5 z6 : Int), Inv (j + 1) σ1 μ1 → G X (1000 + 8 * (j + 1)) (20000 + 48 * (j + 1)) 1986 [(61, 0), (10, 0), (11, 0), (60, 0), (0, i), (0, z5), (0, z6)] [] (σ1, μ1)) : G X (1000 + 8 * j) (20000 + 48 * j) 1402 [(61, 0), (10, 0), (11, 0), (60, 0), (0, i), (1, 0), (1, 0)] [] (σ, μ) := by
  have r1 : -2147483648 ≤ (xs (i + 1).toNat).toInt ∧ (xs (i + 1).toNat).toInt ≤ 2147483647 := gR_toInt _
  obtain ⟨r, s1, b, m1, hF, hG, hx, ht, hb9, hI⟩ := HS j σ μ ((xs (i + 1).toNat).toInt) hInv hj r1
  have hk : 0 ≤ (if gxc r = 0 then 0 else 1 : Int) ∧ (if gxc r = 0 then 0 else 1 : Int) ≤ 3 := by rcases hx with hx | hx <;> rw [hx] <;> decide
  refine g_aload_nq h 1402 dL_law_1402 rfl rfl ?_
  refine g_aload_nq h 1403 dL_law_1403 rfl rfl ?_
  refine g_iload h 1404 dL_law_1404 rfl ?_
  refine g_iconst h 1406 dL_law_1406 ?_
  refine g_iadd h 1407 dL_law_1407 ?_
  refine g_scrld h 1408 dL_law_1408 hX (by omega) hL9 ?_
  refine g_aload_nq h 1409 dL_law_1409 rfl rfl ?_
  refine g_callSH (n := 3) h hE 1410 dL_law_1410 (cw_handle hl hF hx) kw_875 kw_100 kw_874 ⟨by decide, by decide, by decide +kernel⟩ (Nat.le_of_ble_eq_true rfl) kw_873 (Nat.le_of_ble_eq_true rfl) rfl (Nat.le_of_ble_eq_true rfl) ⟨by omega, by omega⟩ rfl rfl ?_
  show G X (1000 + 8 * j + 1) (20000 + 48 * j + 6 * 1) 1413 [(61, 0), (10, 0), (11, 0), (60, 0), (0, i), (1, 0), (1, 0)] [(0, (if gxc r = 0 then 0 else 1 : Int))] ((if gxc r = 0 then upd2 s1 51 0 r else s1), μ)
  refine g_istore h 1413 dL_law_1413 (Nat.le_of_ble_eq_true rfl) rfl (L' := [(61, 0), (10, 0), (11, 0), (60, 0), (0, i), (0, (if gxc r = 0 then 0 else 1 : Int)), (1, 0)]) rfl ?_
  refine g_aload_nq h 1415 dL_law_1415 rfl rfl ?_
  refine g_aload_nq h 1416 dL_law_1416 rfl rfl ?_
  refine g_iload h 1417 dL_law_1417 rfl ?_
  refine g_iconst h 1419 dL_law_1419 ?_
  refine g_iadd h 1420 dL_law_1420 ?_
  refine g_scrld h 1421 dL_law_1421 hX (by omega) hL9 ?_
  refine g_callV0 h hE 1422 dL_law_1422 (ctX8_handle hl hG) mwX8_handle kw_1400 (by decide) (by decide) rfl (Nat.le_of_ble_eq_true rfl) rfl (Nat.le_of_ble_eq_true rfl) ⟨by omega, by omega⟩ rfl rfl ?_
  show G X (1000 + 8 * j + 1) (20000 + 48 * j + 6 * 1) 1425 [(61, 0), (10, 0), (11, 0), (60, 0), (0, i), (0, (if gxc r = 0 then 0 else 1 : Int)), (1, 0)] [(0, b)] ((if gxc r = 0 then upd2 s1 51 0 r else s1), m1)
  refine g_istore h 1425 dL_law_1425 (Nat.le_of_ble_eq_true rfl) rfl (L' := [(61, 0), (10, 0), (11, 0), (60, 0), (0, i), (0, (if gxc r = 0 then 0 else 1 : Int)), (0, b)]) rfl ?_
  refine g_aload_nq h 1427 dL_law_1427 rfl rfl ?_
  refine g_callV0 h hE 1428 dL_law_1428 (cpX8_thrown hl) mwX8_thrown kw_1134 (by decide) (by decide) rfl (Nat.le_of_ble_eq_true rfl) rfl (Nat.le_of_ble_eq_true rfl) ⟨by omega, by omega⟩ rfl rfl ?_
  show G X (1000 + 8 * j + 1) (20000 + 48 * j + 6 * 1) 1431 [(61, 0), (10, 0), (11, 0), (60, 0), (0, i), (0, (if gxc r = 0 then 0 else 1 : Int)), (0, b)] [(0, m1 101 0)] ((if gxc r = 0 then upd2 s1 51 0 r else s1), m1)
  refine g_iload h 1431 dL_law_1431 rfl ?_
  refine g_icmp_eq h 1433 1438 (gRi (by omega)) (gRi (by omega)) dL_law_1433 (by decide) (fun _ => ?_) (fun q => absurd ht q)
  refine g_iload h 1438 dL_law_1438 rfl ?_
  refine g_if_ne h 1440 1455 (gRi (by omega)) dL_law_1440 (by decide) (fun _ => ?_) (fun hk0 => ?_)
  · refine g_goto h 1455 1986 dL_law_1455 (by decide) ?_
    exact G_widen (by omega) (by omega) (JE _ _ _ _ hI)
  have hx0 : gxc r = 0 := by
    rcases hx with hx | hx
    · exact hx
    · rw [hx] at hk0; exact absurd hk0 (by decide)
  have hbr := hb9 hx0
  have hr := (rgX7_handle hF).resolve_left (fun q => q hx0)
  have hov : (if gxc r = 0 then upd2 s1 51 0 r else s1) 51 0 = r := by rw [if_pos hx0]; exact upd2_s
  subst hbr
  refine g_aload_nq h 1443 dL_law_1443 rfl rfl ?_
  refine g_iconst h 1444 dL_law_1444 ?_
  refine al_out h 1445 dL_law_1445 (by decide) ?_
  rw [hov]
  refine g_iload h 1446 dL_law_1446 rfl ?_
  refine g_i2l h 1448 dL_law_1448 (gRi hr) ?_
  refine g_lcmp h 1449 dL_law_1449 (gRi hr) (gRi hr) ?_
  rw [if_neg (Int.lt_irrefl _), if_pos rfl]
  refine g_if_eq h 1450 1455 gR_0 dL_law_1450 (by decide) (fun _ => ?_) (fun q => absurd rfl q)
  refine g_goto h 1455 1986 dL_law_1455 (by decide) ?_
  exact G_widen (by omega) (by omega) (JE _ _ _ _ hI)
set_option maxRecDepth 100000 in
set_option maxHeartbeats 4000000 in
theorem lc_join {X : gX} {l : Launch} {w : gW} {bs : Nat} (hl : l.stackTraces = false) (h : gOk X "PagewrightLaw" cL_law 7 14 601024 7293033) (hE : gAtX X l w bs) {Ln : Nat} {xs : Nat → Int32} (hX : gScr X Ln xs) (hL9 : Ln ≤ 4608) {Inv : Nat → S2 → S2 → Prop} (HS : gSim_join Inv) (j : Nat) (hj : j < 512) {i : Int} (hi : 0 ≤ i ∧ i + 9 ≤ Ln) (σ μ : S2) (hInv : Inv j σ μ) (JE : ∀ (σ1 μ1 : S2) (z5 z6 : Int), Inv (j + 1) σ1 μ1 → G X (1000 + 8 * (j + 1)) (20000 + 48 * (j + 1)) 1986 [(61, 0), (10, 0), (11, 0), (60, 0), (0, i), (0, z5), (0, z6)] [] (σ1, μ1)) : G X (1000 + 8 * j) (20000 + 48 * j) 1458 [(61, 0), (10, 0), (11, 0), (60, 0), (0, i), (1, 0), (1, 0)] [] (σ, μ) := by
  have r1 : -2147483648 ≤ (xs (i + 1).toNat).toInt ∧ (xs (i + 1).toNat).toInt ≤ 2147483647 := gR_toInt _
  have r2 : -2147483648 ≤ (xs (i + 2).toNat).toInt ∧ (xs (i + 2).toNat).toInt ≤ 2147483647 := gR_toInt _
  obtain ⟨r, s1, b, m1, hF, hG, hx, ht, hb9, hI⟩ := HS j σ μ ((xs (i + 1).toNat).toInt) ((xs (i + 2).toNat).toInt) hInv hj r1 r2
  have hk : 0 ≤ (if gxc r = 0 then 0 else if gxc r = 1 then 1 else if gxc r = 2 then 2 else 3 : Int) ∧ (if gxc r = 0 then 0 else if gxc r = 1 then 1 else if gxc r = 2 then 2 else 3 : Int) ≤ 3 := by rcases hx with hx | hx | hx | hx <;> rw [hx] <;> decide
  refine g_aload_nq h 1458 dL_law_1458 rfl rfl ?_
  refine g_aload_nq h 1459 dL_law_1459 rfl rfl ?_
  refine g_iload h 1460 dL_law_1460 rfl ?_
  refine g_iconst h 1462 dL_law_1462 ?_
  refine g_iadd h 1463 dL_law_1463 ?_
  refine g_scrld h 1464 dL_law_1464 hX (by omega) hL9 ?_
  refine g_aload_nq h 1465 dL_law_1465 rfl rfl ?_
  refine g_iload h 1466 dL_law_1466 rfl ?_
  refine g_iconst h 1468 dL_law_1468 ?_
  refine g_iadd h 1469 dL_law_1469 ?_
  refine g_scrld h 1470 dL_law_1470 hX (by omega) hL9 ?_
  refine g_aload_nq h 1471 dL_law_1471 rfl rfl ?_
  refine g_callSH (n := 4) h hE 1472 dL_law_1472 (cw_join hl hF hx) kw_882 kw_100 kw_881 ⟨by decide, by decide, by decide +kernel⟩ (Nat.le_of_ble_eq_true rfl) kw_880 (Nat.le_of_ble_eq_true rfl) rfl (Nat.le_of_ble_eq_true rfl) ⟨by omega, by omega⟩ rfl rfl ?_
  show G X (1000 + 8 * j + 3) (20000 + 48 * j + 6 * 3) 1475 [(61, 0), (10, 0), (11, 0), (60, 0), (0, i), (1, 0), (1, 0)] [(0, (if gxc r = 0 then 0 else if gxc r = 1 then 1 else if gxc r = 2 then 2 else 3 : Int))] ((if gxc r = 0 then upd2 s1 51 0 r else s1), μ)
  refine g_istore h 1475 dL_law_1475 (Nat.le_of_ble_eq_true rfl) rfl (L' := [(61, 0), (10, 0), (11, 0), (60, 0), (0, i), (0, (if gxc r = 0 then 0 else if gxc r = 1 then 1 else if gxc r = 2 then 2 else 3 : Int)), (1, 0)]) rfl ?_
  refine g_aload_nq h 1477 dL_law_1477 rfl rfl ?_
  refine g_aload_nq h 1478 dL_law_1478 rfl rfl ?_
  refine g_iload h 1479 dL_law_1479 rfl ?_
  refine g_iconst h 1481 dL_law_1481 ?_
  refine g_iadd h 1482 dL_law_1482 ?_
  refine g_scrld h 1483 dL_law_1483 hX (by omega) hL9 ?_
  refine g_aload_nq h 1484 dL_law_1484 rfl rfl ?_
  refine g_iload h 1485 dL_law_1485 rfl ?_
  refine g_iconst h 1487 dL_law_1487 ?_
  refine g_iadd h 1488 dL_law_1488 ?_
  refine g_scrld h 1489 dL_law_1489 hX (by omega) hL9 ?_
  refine g_callV0 h hE 1490 dL_law_1490 (ctX8_join hl hG) mwX8_join kw_1404 (by decide) (by decide) rfl (Nat.le_of_ble_eq_true rfl) rfl (Nat.le_of_ble_eq_true rfl) ⟨by omega, by omega⟩ rfl rfl ?_
  show G X (1000 + 8 * j + 3) (20000 + 48 * j + 6 * 3) 1493 [(61, 0), (10, 0), (11, 0), (60, 0), (0, i), (0, (if gxc r = 0 then 0 else if gxc r = 1 then 1 else if gxc r = 2 then 2 else 3 : Int)), (1, 0)] [(0, b)] ((if gxc r = 0 then upd2 s1 51 0 r else s1), m1)
  refine g_istore h 1493 dL_law_1493 (Nat.le_of_ble_eq_true rfl) rfl (L' := [(61, 0), (10, 0), (11, 0), (60, 0), (0, i), (0, (if gxc r = 0 then 0 else if gxc r = 1 then 1 else if gxc r = 2 then 2 else 3 : Int)), (0, b)]) rfl ?_
  refine g_aload_nq h 1495 dL_law_1495 rfl rfl ?_
  refine g_callV0 h hE 1496 dL_law_1496 (cpX8_thrown hl) mwX8_thrown kw_1134 (by decide) (by decide) rfl (Nat.le_of_ble_eq_true rfl) rfl (Nat.le_of_ble_eq_true rfl) ⟨by omega, by omega⟩ rfl rfl ?_
  show G X (1000 + 8 * j + 3) (20000 + 48 * j + 6 * 3) 1499 [(61, 0), (10, 0), (11, 0), (60, 0), (0, i), (0, (if gxc r = 0 then 0 else if gxc r = 1 then 1 else if gxc r = 2 then 2 else 3 : Int)), (0, b)] [(0, m1 101 0)] ((if gxc r = 0 then upd2 s1 51 0 r else s1), m1)
  refine g_iload h 1499 dL_law_1499 rfl ?_
  refine g_icmp_eq h 1501 1506 (gRi (by omega)) (gRi (by omega)) dL_law_1501 (by decide) (fun _ => ?_) (fun q => absurd ht q)
  refine g_iload h 1506 dL_law_1506 rfl ?_
  refine g_if_ne h 1508 1523 (gRi (by omega)) dL_law_1508 (by decide) (fun _ => ?_) (fun hk0 => ?_)
  · refine g_goto h 1523 1986 dL_law_1523 (by decide) ?_
    exact G_widen (by omega) (by omega) (JE _ _ _ _ hI)
  have hx0 : gxc r = 0 := by
    rcases hx with hx | hx | hx | hx
    · exact hx
    · rw [hx] at hk0; exact absurd hk0 (by decide)
    · rw [hx] at hk0; exact absurd hk0 (by decide)
    · rw [hx] at hk0; exact absurd hk0 (by decide)
  have hbr := hb9 hx0
  have hr := (rgX7_join hF).resolve_left (fun q => q hx0)
  have hov : (if gxc r = 0 then upd2 s1 51 0 r else s1) 51 0 = r := by rw [if_pos hx0]; exact upd2_s
  subst hbr
  refine g_aload_nq h 1511 dL_law_1511 rfl rfl ?_
  refine g_iconst h 1512 dL_law_1512 ?_
  refine al_out h 1513 dL_law_1513 (by decide) ?_
  rw [hov]
  refine g_iload h 1514 dL_law_1514 rfl ?_
  refine g_i2l h 1516 dL_law_1516 (gRi hr) ?_
  refine g_lcmp h 1517 dL_law_1517 (gRi hr) (gRi hr) ?_
  rw [if_neg (Int.lt_irrefl _), if_pos rfl]
  refine g_if_eq h 1518 1523 gR_0 dL_law_1518 (by decide) (fun _ => ?_) (fun q => absurd rfl q)
  refine g_goto h 1523 1986 dL_law_1523 (by decide) ?_
  exact G_widen (by omega) (by omega) (JE _ _ _ _ hI)
set_option maxRecDepth 100000 in
set_option maxHeartbeats 4000000 in
theorem lc_merge {X : gX} {l : Launch} {w : gW} {bs : Nat} (hl : l.stackTraces = false) (h : gOk X "PagewrightLaw" cL_law 7 14 601024 7293033) (hE : gAtX X l w bs) {Ln : Nat} {xs : Nat → Int32} (hX : gScr X Ln xs) (hL9 : Ln ≤ 4608) {Inv : Nat → S2 → S2 → Prop} (HS : gSim_merge Inv) (j : Nat) (hj : j < 512) {i : Int} (hi : 0 ≤ i ∧ i + 9 ≤ Ln) (σ μ : S2) (hInv : Inv j σ μ) (JE : ∀ (σ1 μ1 : S2) (z5 z6 : Int), Inv (j + 1) σ1 μ1 → G X (1000 + 8 * (j + 1)) (20000 + 48 * (j + 1)) 1986 [(61, 0), (10, 0), (11, 0), (60, 0), (0, i), (0, z5), (1, 0)] [] (σ1, μ1)) : G X (1000 + 8 * j) (20000 + 48 * j) 1526 [(61, 0), (10, 0), (11, 0), (60, 0), (0, i), (1, 0), (1, 0)] [] (σ, μ) := by
  have r1 : -2147483648 ≤ (xs (i + 1).toNat).toInt ∧ (xs (i + 1).toNat).toInt ≤ 2147483647 := gR_toInt _
  have r2 : -2147483648 ≤ (xs (i + 2).toNat).toInt ∧ (xs (i + 2).toNat).toInt ≤ 2147483647 := gR_toInt _
  have b2 : 0 ≤ (if (xs (i + 2).toNat).toInt ≠ 0 then 1 else 0 : Int) ∧ (if (xs (i + 2).toNat).toInt ≠ 0 then 1 else 0 : Int) ≤ 1 := by split <;> decide
  obtain ⟨r, s1, b, m1, hF, hG, hx, ht, hI⟩ := HS j σ μ ((xs (i + 1).toNat).toInt) ((if (xs (i + 2).toNat).toInt ≠ 0 then 1 else 0 : Int)) hInv hj r1 b2
  have hk : 0 ≤ (if gxc r = 0 then 0 else 1 : Int) ∧ (if gxc r = 0 then 0 else 1 : Int) ≤ 3 := by rcases hx with hx | hx <;> rw [hx] <;> decide
  refine g_aload_nq h 1526 dL_law_1526 rfl rfl ?_
  refine g_aload_nq h 1527 dL_law_1527 rfl rfl ?_
  refine g_iload h 1528 dL_law_1528 rfl ?_
  refine g_iconst h 1530 dL_law_1530 ?_
  refine g_iadd h 1531 dL_law_1531 ?_
  refine g_scrld h 1532 dL_law_1532 hX (by omega) hL9 ?_
  refine g_aload_nq h 1533 dL_law_1533 rfl rfl ?_
  refine g_iload h 1534 dL_law_1534 rfl ?_
  refine g_iconst h 1536 dL_law_1536 ?_
  refine g_iadd h 1537 dL_law_1537 ?_
  refine g_scrld h 1538 dL_law_1538 hX (by omega) hL9 ?_
  suffices J1538_2 : ∀ vv : Int, vv = (if (xs (i + 2).toNat).toInt ≠ 0 then 1 else 0 : Int) → G X (1000 + 8 * j) (20000 + 48 * j) 1547 [(61, 0), (10, 0), (11, 0), (60, 0), (0, i), (1, 0), (1, 0)] [(0, vv), (0, (xs (i + 1).toNat).toInt), (10, 0)] (σ, μ) by
    refine g_if_eq h 1539 1546 (gRi r2) dL_law_1539 (by decide) (fun hz => ?_) (fun hz => ?_)
    · refine g_iconst h 1546 dL_law_1546 ?_
      exact J1538_2 _ (if_neg (fun q => q hz)).symm
    · refine g_iconst h 1542 dL_law_1542 ?_
      refine g_goto h 1543 1547 dL_law_1543 (by decide) ?_
      exact J1538_2 _ (if_pos hz).symm
  intro vv hvv
  subst hvv
  refine g_callSH (n := 3) h hE 1547 dL_law_1547 (cw_merge hl hF hx) kw_905 kw_100 kw_904 ⟨by decide, by decide, by decide +kernel⟩ (Nat.le_of_ble_eq_true rfl) kw_903 (Nat.le_of_ble_eq_true rfl) rfl (Nat.le_of_ble_eq_true rfl) ⟨by omega, by omega⟩ rfl rfl ?_
  show G X (1000 + 8 * j + 1) (20000 + 48 * j + 6 * 1) 1550 [(61, 0), (10, 0), (11, 0), (60, 0), (0, i), (1, 0), (1, 0)] [(0, (if gxc r = 0 then 0 else 1 : Int))] (s1, μ)
  refine g_istore h 1550 dL_law_1550 (Nat.le_of_ble_eq_true rfl) rfl (L' := [(61, 0), (10, 0), (11, 0), (60, 0), (0, i), (0, (if gxc r = 0 then 0 else 1 : Int)), (1, 0)]) rfl ?_
  refine g_aload_nq h 1552 dL_law_1552 rfl rfl ?_
  refine g_aload_nq h 1553 dL_law_1553 rfl rfl ?_
  refine g_iload h 1554 dL_law_1554 rfl ?_
  refine g_iconst h 1556 dL_law_1556 ?_
  refine g_iadd h 1557 dL_law_1557 ?_
  refine g_scrld h 1558 dL_law_1558 hX (by omega) hL9 ?_
  refine g_aload_nq h 1559 dL_law_1559 rfl rfl ?_
  refine g_iload h 1560 dL_law_1560 rfl ?_
  refine g_iconst h 1562 dL_law_1562 ?_
  refine g_iadd h 1563 dL_law_1563 ?_
  refine g_scrld h 1564 dL_law_1564 hX (by omega) hL9 ?_
  suffices J1564_2 : ∀ vv : Int, vv = (if (xs (i + 2).toNat).toInt ≠ 0 then 1 else 0 : Int) → G X (1000 + 8 * j + 1) (20000 + 48 * j + 6 * 1) 1573 [(61, 0), (10, 0), (11, 0), (60, 0), (0, i), (0, (if gxc r = 0 then 0 else 1 : Int)), (1, 0)] [(0, vv), (0, (xs (i + 1).toNat).toInt), (11, 0)] (s1, μ) by
    refine g_if_eq h 1565 1572 (gRi r2) dL_law_1565 (by decide) (fun hz => ?_) (fun hz => ?_)
    · refine g_iconst h 1572 dL_law_1572 ?_
      exact J1564_2 _ (if_neg (fun q => q hz)).symm
    · refine g_iconst h 1568 dL_law_1568 ?_
      refine g_goto h 1569 1573 dL_law_1569 (by decide) ?_
      exact J1564_2 _ (if_pos hz).symm
  intro vv hvv
  subst hvv
  refine g_callV0 h hE 1573 dL_law_1573 (ctX8_merge hl hG) mwX8_merge kw_1416 (by decide) (by decide) rfl (Nat.le_of_ble_eq_true rfl) rfl (Nat.le_of_ble_eq_true rfl) ⟨by omega, by omega⟩ rfl rfl ?_
  show G X (1000 + 8 * j + 1) (20000 + 48 * j + 6 * 1) 1576 [(61, 0), (10, 0), (11, 0), (60, 0), (0, i), (0, (if gxc r = 0 then 0 else 1 : Int)), (1, 0)] [] (s1, m1)
  refine g_aload_nq h 1576 dL_law_1576 rfl rfl ?_
  refine g_callV0 h hE 1577 dL_law_1577 (cpX8_thrown hl) mwX8_thrown kw_1134 (by decide) (by decide) rfl (Nat.le_of_ble_eq_true rfl) rfl (Nat.le_of_ble_eq_true rfl) ⟨by omega, by omega⟩ rfl rfl ?_
  show G X (1000 + 8 * j + 1) (20000 + 48 * j + 6 * 1) 1580 [(61, 0), (10, 0), (11, 0), (60, 0), (0, i), (0, (if gxc r = 0 then 0 else 1 : Int)), (1, 0)] [(0, m1 101 0)] (s1, m1)
  refine g_iload h 1580 dL_law_1580 rfl ?_
  refine g_icmp_eq h 1582 1587 (gRi (by omega)) (gRi (by omega)) dL_law_1582 (by decide) (fun _ => ?_) (fun q => absurd ht q)
  refine g_goto h 1587 1986 dL_law_1587 (by decide) ?_
  exact G_widen (by omega) (by omega) (JE _ _ _ 0 hI)
set_option maxRecDepth 100000 in
set_option maxHeartbeats 4000000 in
theorem lc_scan {X : gX} {l : Launch} {w : gW} {bs : Nat} (hl : l.stackTraces = false) (h : gOk X "PagewrightLaw" cL_law 7 14 601024 7293033) (hE : gAtX X l w bs) {Ln : Nat} {xs : Nat → Int32} (hX : gScr X Ln xs) (hL9 : Ln ≤ 4608) {Inv : Nat → S2 → S2 → Prop} (HS : gSim_scan Inv) (j : Nat) (hj : j < 512) {i : Int} (hi : 0 ≤ i ∧ i + 9 ≤ Ln) (σ μ : S2) (hInv : Inv j σ μ) (JE : ∀ (σ1 μ1 : S2) (z5 z6 : Int), Inv (j + 1) σ1 μ1 → G X (1000 + 8 * (j + 1)) (20000 + 48 * (j + 1)) 1986 [(61, 0), (10, 0), (11, 0), (60, 0), (0, i), (0, z5), (0, z6)] [] (σ1, μ1)) : G X (1000 + 8 * j) (20000 + 48 * j) 1590 [(61, 0), (10, 0), (11, 0), (60, 0), (0, i), (1, 0), (1, 0)] [] (σ, μ) := by
  have r1 : -2147483648 ≤ (xs (i + 1).toNat).toInt ∧ (xs (i + 1).toNat).toInt ≤ 2147483647 := gR_toInt _
  obtain ⟨r, s1, b, m1, hF, hG, hx, ht, hb9, hI⟩ := HS j σ μ ((xs (i + 1).toNat).toInt) hInv hj r1
  have hk : 0 ≤ (if gxc r = 0 then 0 else 1 : Int) ∧ (if gxc r = 0 then 0 else 1 : Int) ≤ 3 := by rcases hx with hx | hx <;> rw [hx] <;> decide
  refine g_aload_nq h 1590 dL_law_1590 rfl rfl ?_
  refine g_aload_nq h 1591 dL_law_1591 rfl rfl ?_
  refine g_iload h 1592 dL_law_1592 rfl ?_
  refine g_iconst h 1594 dL_law_1594 ?_
  refine g_iadd h 1595 dL_law_1595 ?_
  refine g_scrld h 1596 dL_law_1596 hX (by omega) hL9 ?_
  refine g_aload_nq h 1597 dL_law_1597 rfl rfl ?_
  refine g_callSH (n := 3) h hE 1598 dL_law_1598 (cw_scan hl hF hx) kw_912 kw_100 kw_911 ⟨by decide, by decide, by decide +kernel⟩ (Nat.le_of_ble_eq_true rfl) kw_910 (Nat.le_of_ble_eq_true rfl) rfl (Nat.le_of_ble_eq_true rfl) ⟨by omega, by omega⟩ rfl rfl ?_
  show G X (1000 + 8 * j + 1) (20000 + 48 * j + 6 * 1) 1601 [(61, 0), (10, 0), (11, 0), (60, 0), (0, i), (1, 0), (1, 0)] [(0, (if gxc r = 0 then 0 else 1 : Int))] ((if gxc r = 0 then upd2 s1 51 0 r else s1), μ)
  refine g_istore h 1601 dL_law_1601 (Nat.le_of_ble_eq_true rfl) rfl (L' := [(61, 0), (10, 0), (11, 0), (60, 0), (0, i), (0, (if gxc r = 0 then 0 else 1 : Int)), (1, 0)]) rfl ?_
  refine g_aload_nq h 1603 dL_law_1603 rfl rfl ?_
  refine g_aload_nq h 1604 dL_law_1604 rfl rfl ?_
  refine g_iload h 1605 dL_law_1605 rfl ?_
  refine g_iconst h 1607 dL_law_1607 ?_
  refine g_iadd h 1608 dL_law_1608 ?_
  refine g_scrld h 1609 dL_law_1609 hX (by omega) hL9 ?_
  refine g_callV0 h hE 1610 dL_law_1610 (ctX8_scan hl hG) mwX8_scan kw_1420 (by decide) (by decide) rfl (Nat.le_of_ble_eq_true rfl) rfl (Nat.le_of_ble_eq_true rfl) ⟨by omega, by omega⟩ rfl rfl ?_
  show G X (1000 + 8 * j + 1) (20000 + 48 * j + 6 * 1) 1613 [(61, 0), (10, 0), (11, 0), (60, 0), (0, i), (0, (if gxc r = 0 then 0 else 1 : Int)), (1, 0)] [(0, b)] ((if gxc r = 0 then upd2 s1 51 0 r else s1), m1)
  refine g_istore h 1613 dL_law_1613 (Nat.le_of_ble_eq_true rfl) rfl (L' := [(61, 0), (10, 0), (11, 0), (60, 0), (0, i), (0, (if gxc r = 0 then 0 else 1 : Int)), (0, b)]) rfl ?_
  refine g_aload_nq h 1615 dL_law_1615 rfl rfl ?_
  refine g_callV0 h hE 1616 dL_law_1616 (cpX8_thrown hl) mwX8_thrown kw_1134 (by decide) (by decide) rfl (Nat.le_of_ble_eq_true rfl) rfl (Nat.le_of_ble_eq_true rfl) ⟨by omega, by omega⟩ rfl rfl ?_
  show G X (1000 + 8 * j + 1) (20000 + 48 * j + 6 * 1) 1619 [(61, 0), (10, 0), (11, 0), (60, 0), (0, i), (0, (if gxc r = 0 then 0 else 1 : Int)), (0, b)] [(0, m1 101 0)] ((if gxc r = 0 then upd2 s1 51 0 r else s1), m1)
  refine g_iload h 1619 dL_law_1619 rfl ?_
  refine g_icmp_eq h 1621 1626 (gRi (by omega)) (gRi (by omega)) dL_law_1621 (by decide) (fun _ => ?_) (fun q => absurd ht q)
  refine g_iload h 1626 dL_law_1626 rfl ?_
  refine g_if_ne h 1628 1643 (gRi (by omega)) dL_law_1628 (by decide) (fun _ => ?_) (fun hk0 => ?_)
  · refine g_goto h 1643 1986 dL_law_1643 (by decide) ?_
    exact G_widen (by omega) (by omega) (JE _ _ _ _ hI)
  have hx0 : gxc r = 0 := by
    rcases hx with hx | hx
    · exact hx
    · rw [hx] at hk0; exact absurd hk0 (by decide)
  have hbr := hb9 hx0
  have hr := (rgX7_scan hF).resolve_left (fun q => q hx0)
  have hov : (if gxc r = 0 then upd2 s1 51 0 r else s1) 51 0 = r := by rw [if_pos hx0]; exact upd2_s
  subst hbr
  refine g_aload_nq h 1631 dL_law_1631 rfl rfl ?_
  refine g_iconst h 1632 dL_law_1632 ?_
  refine al_out h 1633 dL_law_1633 (by decide) ?_
  rw [hov]
  refine g_iload h 1634 dL_law_1634 rfl ?_
  refine g_i2l h 1636 dL_law_1636 (gRi hr) ?_
  refine g_lcmp h 1637 dL_law_1637 (gRi hr) (gRi hr) ?_
  rw [if_neg (Int.lt_irrefl _), if_pos rfl]
  refine g_if_eq h 1638 1643 gR_0 dL_law_1638 (by decide) (fun _ => ?_) (fun q => absurd rfl q)
  refine g_goto h 1643 1986 dL_law_1643 (by decide) ?_
  exact G_widen (by omega) (by omega) (JE _ _ _ _ hI)
set_option maxRecDepth 100000 in
set_option maxHeartbeats 4000000 in
theorem lc_entry {X : gX} {l : Launch} {w : gW} {bs : Nat} (hl : l.stackTraces = false) (h : gOk X "PagewrightLaw" cL_law 7 14 601024 7293033) (hE : gAtX X l w bs) {Ln : Nat} {xs : Nat → Int32} (hX : gScr X Ln xs) (hL9 : Ln ≤ 4608) {Inv : Nat → S2 → S2 → Prop} (HS : gSim_entry Inv) (j : Nat) (hj : j < 512) {i : Int} (hi : 0 ≤ i ∧ i + 9 ≤ Ln) (σ μ : S2) (hInv : Inv j σ μ) (JE : ∀ (σ1 μ1 : S2) (z5 z6 : Int), Inv (j + 1) σ1 μ1 → G X (1000 + 8 * (j + 1)) (20000 + 48 * (j + 1)) 1986 [(61, 0), (10, 0), (11, 0), (60, 0), (0, i), (0, z5), (0, z6)] [] (σ1, μ1)) : G X (1000 + 8 * j) (20000 + 48 * j) 1646 [(61, 0), (10, 0), (11, 0), (60, 0), (0, i), (1, 0), (1, 0)] [] (σ, μ) := by
  have r1 : -2147483648 ≤ (xs (i + 1).toNat).toInt ∧ (xs (i + 1).toNat).toInt ≤ 2147483647 := gR_toInt _
  have r2 : -2147483648 ≤ (xs (i + 2).toNat).toInt ∧ (xs (i + 2).toNat).toInt ≤ 2147483647 := gR_toInt _
  have r3 : -2147483648 ≤ (xs (i + 3).toNat).toInt ∧ (xs (i + 3).toNat).toInt ≤ 2147483647 := gR_toInt _
  obtain ⟨r, s1, b, m1, hF, hG, hx, ht, hb9, hI⟩ := HS j σ μ ((xs (i + 1).toNat).toInt) ((xs (i + 2).toNat).toInt) ((xs (i + 3).toNat).toInt) hInv hj r1 r2 r3
  have hk : 0 ≤ (if gxc r = 0 then 0 else if gxc r = 1 then 1 else 2 : Int) ∧ (if gxc r = 0 then 0 else if gxc r = 1 then 1 else 2 : Int) ≤ 3 := by rcases hx with hx | hx | hx <;> rw [hx] <;> decide
  refine g_aload_nq h 1646 dL_law_1646 rfl rfl ?_
  refine g_aload_nq h 1647 dL_law_1647 rfl rfl ?_
  refine g_iload h 1648 dL_law_1648 rfl ?_
  refine g_iconst h 1650 dL_law_1650 ?_
  refine g_iadd h 1651 dL_law_1651 ?_
  refine g_scrld h 1652 dL_law_1652 hX (by omega) hL9 ?_
  refine g_aload_nq h 1653 dL_law_1653 rfl rfl ?_
  refine g_iload h 1654 dL_law_1654 rfl ?_
  refine g_iconst h 1656 dL_law_1656 ?_
  refine g_iadd h 1657 dL_law_1657 ?_
  refine g_scrld h 1658 dL_law_1658 hX (by omega) hL9 ?_
  refine g_aload_nq h 1659 dL_law_1659 rfl rfl ?_
  refine g_iload h 1660 dL_law_1660 rfl ?_
  refine g_iconst h 1662 dL_law_1662 ?_
  refine g_iadd h 1663 dL_law_1663 ?_
  refine g_scrld h 1664 dL_law_1664 hX (by omega) hL9 ?_
  refine g_aload_nq h 1665 dL_law_1665 rfl rfl ?_
  refine g_callSH (n := 5) h hE 1666 dL_law_1666 (cw_entry hl hF hx) kw_943 kw_100 kw_942 ⟨by decide, by decide, by decide +kernel⟩ (Nat.le_of_ble_eq_true rfl) kw_941 (Nat.le_of_ble_eq_true rfl) rfl (Nat.le_of_ble_eq_true rfl) ⟨by omega, by omega⟩ rfl rfl ?_
  show G X (1000 + 8 * j + 2) (20000 + 48 * j + 6 * 2) 1669 [(61, 0), (10, 0), (11, 0), (60, 0), (0, i), (1, 0), (1, 0)] [(0, (if gxc r = 0 then 0 else if gxc r = 1 then 1 else 2 : Int))] ((if gxc r = 0 then upd2 s1 51 0 r else s1), μ)
  refine g_istore h 1669 dL_law_1669 (Nat.le_of_ble_eq_true rfl) rfl (L' := [(61, 0), (10, 0), (11, 0), (60, 0), (0, i), (0, (if gxc r = 0 then 0 else if gxc r = 1 then 1 else 2 : Int)), (1, 0)]) rfl ?_
  refine g_aload_nq h 1671 dL_law_1671 rfl rfl ?_
  refine g_aload_nq h 1672 dL_law_1672 rfl rfl ?_
  refine g_iload h 1673 dL_law_1673 rfl ?_
  refine g_iconst h 1675 dL_law_1675 ?_
  refine g_iadd h 1676 dL_law_1676 ?_
  refine g_scrld h 1677 dL_law_1677 hX (by omega) hL9 ?_
  refine g_aload_nq h 1678 dL_law_1678 rfl rfl ?_
  refine g_iload h 1679 dL_law_1679 rfl ?_
  refine g_iconst h 1681 dL_law_1681 ?_
  refine g_iadd h 1682 dL_law_1682 ?_
  refine g_scrld h 1683 dL_law_1683 hX (by omega) hL9 ?_
  refine g_aload_nq h 1684 dL_law_1684 rfl rfl ?_
  refine g_iload h 1685 dL_law_1685 rfl ?_
  refine g_iconst h 1687 dL_law_1687 ?_
  refine g_iadd h 1688 dL_law_1688 ?_
  refine g_scrld h 1689 dL_law_1689 hX (by omega) hL9 ?_
  refine g_callV0 h hE 1690 dL_law_1690 (ctX8_entry hl hG) mwX8_entry kw_1444 (by decide) (by decide) rfl (Nat.le_of_ble_eq_true rfl) rfl (Nat.le_of_ble_eq_true rfl) ⟨by omega, by omega⟩ rfl rfl ?_
  show G X (1000 + 8 * j + 2) (20000 + 48 * j + 6 * 2) 1693 [(61, 0), (10, 0), (11, 0), (60, 0), (0, i), (0, (if gxc r = 0 then 0 else if gxc r = 1 then 1 else 2 : Int)), (1, 0)] [(0, b)] ((if gxc r = 0 then upd2 s1 51 0 r else s1), m1)
  refine g_istore h 1693 dL_law_1693 (Nat.le_of_ble_eq_true rfl) rfl (L' := [(61, 0), (10, 0), (11, 0), (60, 0), (0, i), (0, (if gxc r = 0 then 0 else if gxc r = 1 then 1 else 2 : Int)), (0, b)]) rfl ?_
  refine g_aload_nq h 1695 dL_law_1695 rfl rfl ?_
  refine g_callV0 h hE 1696 dL_law_1696 (cpX8_thrown hl) mwX8_thrown kw_1134 (by decide) (by decide) rfl (Nat.le_of_ble_eq_true rfl) rfl (Nat.le_of_ble_eq_true rfl) ⟨by omega, by omega⟩ rfl rfl ?_
  show G X (1000 + 8 * j + 2) (20000 + 48 * j + 6 * 2) 1699 [(61, 0), (10, 0), (11, 0), (60, 0), (0, i), (0, (if gxc r = 0 then 0 else if gxc r = 1 then 1 else 2 : Int)), (0, b)] [(0, m1 101 0)] ((if gxc r = 0 then upd2 s1 51 0 r else s1), m1)
  refine g_iload h 1699 dL_law_1699 rfl ?_
  refine g_icmp_eq h 1701 1706 (gRi (by omega)) (gRi (by omega)) dL_law_1701 (by decide) (fun _ => ?_) (fun q => absurd ht q)
  refine g_iload h 1706 dL_law_1706 rfl ?_
  refine g_if_ne h 1708 1723 (gRi (by omega)) dL_law_1708 (by decide) (fun _ => ?_) (fun hk0 => ?_)
  · refine g_goto h 1723 1986 dL_law_1723 (by decide) ?_
    exact G_widen (by omega) (by omega) (JE _ _ _ _ hI)
  have hx0 : gxc r = 0 := by
    rcases hx with hx | hx | hx
    · exact hx
    · rw [hx] at hk0; exact absurd hk0 (by decide)
    · rw [hx] at hk0; exact absurd hk0 (by decide)
  have hbr := hb9 hx0
  have hr := (rgX7_entry hF).resolve_left (fun q => q hx0)
  have hov : (if gxc r = 0 then upd2 s1 51 0 r else s1) 51 0 = r := by rw [if_pos hx0]; exact upd2_s
  subst hbr
  refine g_aload_nq h 1711 dL_law_1711 rfl rfl ?_
  refine g_iconst h 1712 dL_law_1712 ?_
  refine al_out h 1713 dL_law_1713 (by decide) ?_
  rw [hov]
  refine g_iload h 1714 dL_law_1714 rfl ?_
  refine g_i2l h 1716 dL_law_1716 (gRi hr) ?_
  refine g_lcmp h 1717 dL_law_1717 (gRi hr) (gRi hr) ?_
  rw [if_neg (Int.lt_irrefl _), if_pos rfl]
  refine g_if_eq h 1718 1723 gR_0 dL_law_1718 (by decide) (fun _ => ?_) (fun q => absurd rfl q)
  refine g_goto h 1723 1986 dL_law_1723 (by decide) ?_
  exact G_widen (by omega) (by omega) (JE _ _ _ _ hI)
set_option maxRecDepth 100000 in
set_option maxHeartbeats 4000000 in
theorem lc_frame {X : gX} {l : Launch} {w : gW} {bs : Nat} (hl : l.stackTraces = false) (h : gOk X "PagewrightLaw" cL_law 7 14 601024 7293033) (hE : gAtX X l w bs) {Ln : Nat} {xs : Nat → Int32} (hX : gScr X Ln xs) (hL9 : Ln ≤ 4608) {Inv : Nat → S2 → S2 → Prop} (HS : gSim_frame Inv) (j : Nat) (hj : j < 512) {i : Int} (hi : 0 ≤ i ∧ i + 9 ≤ Ln) (σ μ : S2) (hInv : Inv j σ μ) (JE : ∀ (σ1 μ1 : S2) (z5 z6 : Int), Inv (j + 1) σ1 μ1 → G X (1000 + 8 * (j + 1)) (20000 + 48 * (j + 1)) 1986 [(61, 0), (10, 0), (11, 0), (60, 0), (0, i), (0, z5), (0, z6)] [] (σ1, μ1)) : G X (1000 + 8 * j) (20000 + 48 * j) 1726 [(61, 0), (10, 0), (11, 0), (60, 0), (0, i), (1, 0), (1, 0)] [] (σ, μ) := by
  have r1 : -2147483648 ≤ (xs (i + 1).toNat).toInt ∧ (xs (i + 1).toNat).toInt ≤ 2147483647 := gR_toInt _
  have r2 : -2147483648 ≤ (xs (i + 2).toNat).toInt ∧ (xs (i + 2).toNat).toInt ≤ 2147483647 := gR_toInt _
  obtain ⟨r, s1, b, m1, hF, hG, hx, ht, hb9, hI⟩ := HS j σ μ ((xs (i + 1).toNat).toInt) ((xs (i + 2).toNat).toInt) hInv hj r1 r2
  have hk : 0 ≤ (if gxc r = 0 then 0 else 1 : Int) ∧ (if gxc r = 0 then 0 else 1 : Int) ≤ 3 := by rcases hx with hx | hx <;> rw [hx] <;> decide
  refine g_aload_nq h 1726 dL_law_1726 rfl rfl ?_
  refine g_aload_nq h 1727 dL_law_1727 rfl rfl ?_
  refine g_iload h 1728 dL_law_1728 rfl ?_
  refine g_iconst h 1730 dL_law_1730 ?_
  refine g_iadd h 1731 dL_law_1731 ?_
  refine g_scrld h 1732 dL_law_1732 hX (by omega) hL9 ?_
  refine g_aload_nq h 1733 dL_law_1733 rfl rfl ?_
  refine g_iload h 1734 dL_law_1734 rfl ?_
  refine g_iconst h 1736 dL_law_1736 ?_
  refine g_iadd h 1737 dL_law_1737 ?_
  refine g_scrld h 1738 dL_law_1738 hX (by omega) hL9 ?_
  refine g_aload_nq h 1739 dL_law_1739 rfl rfl ?_
  refine g_callSH (n := 4) h hE 1740 dL_law_1740 (cw_frame hl hF hx) kw_953 kw_100 kw_952 ⟨by decide, by decide, by decide +kernel⟩ (Nat.le_of_ble_eq_true rfl) kw_951 (Nat.le_of_ble_eq_true rfl) rfl (Nat.le_of_ble_eq_true rfl) ⟨by omega, by omega⟩ rfl rfl ?_
  show G X (1000 + 8 * j + 1) (20000 + 48 * j + 6 * 1) 1743 [(61, 0), (10, 0), (11, 0), (60, 0), (0, i), (1, 0), (1, 0)] [(0, (if gxc r = 0 then 0 else 1 : Int))] ((if gxc r = 0 then upd2 s1 51 0 r else s1), μ)
  refine g_istore h 1743 dL_law_1743 (Nat.le_of_ble_eq_true rfl) rfl (L' := [(61, 0), (10, 0), (11, 0), (60, 0), (0, i), (0, (if gxc r = 0 then 0 else 1 : Int)), (1, 0)]) rfl ?_
  refine g_aload_nq h 1745 dL_law_1745 rfl rfl ?_
  refine g_aload_nq h 1746 dL_law_1746 rfl rfl ?_
  refine g_iload h 1747 dL_law_1747 rfl ?_
  refine g_iconst h 1749 dL_law_1749 ?_
  refine g_iadd h 1750 dL_law_1750 ?_
  refine g_scrld h 1751 dL_law_1751 hX (by omega) hL9 ?_
  refine g_aload_nq h 1752 dL_law_1752 rfl rfl ?_
  refine g_iload h 1753 dL_law_1753 rfl ?_
  refine g_iconst h 1755 dL_law_1755 ?_
  refine g_iadd h 1756 dL_law_1756 ?_
  refine g_scrld h 1757 dL_law_1757 hX (by omega) hL9 ?_
  refine g_callV0 h hE 1758 dL_law_1758 (ctX8_frame hl hG) mwX8_frame kw_1448 (by decide) (by decide) rfl (Nat.le_of_ble_eq_true rfl) rfl (Nat.le_of_ble_eq_true rfl) ⟨by omega, by omega⟩ rfl rfl ?_
  show G X (1000 + 8 * j + 1) (20000 + 48 * j + 6 * 1) 1761 [(61, 0), (10, 0), (11, 0), (60, 0), (0, i), (0, (if gxc r = 0 then 0 else 1 : Int)), (1, 0)] [(0, b)] ((if gxc r = 0 then upd2 s1 51 0 r else s1), m1)
  refine g_istore h 1761 dL_law_1761 (Nat.le_of_ble_eq_true rfl) rfl (L' := [(61, 0), (10, 0), (11, 0), (60, 0), (0, i), (0, (if gxc r = 0 then 0 else 1 : Int)), (0, b)]) rfl ?_
  refine g_aload_nq h 1763 dL_law_1763 rfl rfl ?_
  refine g_callV0 h hE 1764 dL_law_1764 (cpX8_thrown hl) mwX8_thrown kw_1134 (by decide) (by decide) rfl (Nat.le_of_ble_eq_true rfl) rfl (Nat.le_of_ble_eq_true rfl) ⟨by omega, by omega⟩ rfl rfl ?_
  show G X (1000 + 8 * j + 1) (20000 + 48 * j + 6 * 1) 1767 [(61, 0), (10, 0), (11, 0), (60, 0), (0, i), (0, (if gxc r = 0 then 0 else 1 : Int)), (0, b)] [(0, m1 101 0)] ((if gxc r = 0 then upd2 s1 51 0 r else s1), m1)
  refine g_iload h 1767 dL_law_1767 rfl ?_
  refine g_icmp_eq h 1769 1774 (gRi (by omega)) (gRi (by omega)) dL_law_1769 (by decide) (fun _ => ?_) (fun q => absurd ht q)
  refine g_iload h 1774 dL_law_1774 rfl ?_
  refine g_if_ne h 1776 1791 (gRi (by omega)) dL_law_1776 (by decide) (fun _ => ?_) (fun hk0 => ?_)
  · refine g_goto h 1791 1986 dL_law_1791 (by decide) ?_
    exact G_widen (by omega) (by omega) (JE _ _ _ _ hI)
  have hx0 : gxc r = 0 := by
    rcases hx with hx | hx
    · exact hx
    · rw [hx] at hk0; exact absurd hk0 (by decide)
  have hbr := hb9 hx0
  have hr := (rgX7_frame hF).resolve_left (fun q => q hx0)
  have hov : (if gxc r = 0 then upd2 s1 51 0 r else s1) 51 0 = r := by rw [if_pos hx0]; exact upd2_s
  subst hbr
  refine g_aload_nq h 1779 dL_law_1779 rfl rfl ?_
  refine g_iconst h 1780 dL_law_1780 ?_
  refine al_out h 1781 dL_law_1781 (by decide) ?_
  rw [hov]
  refine g_iload h 1782 dL_law_1782 rfl ?_
  refine g_i2l h 1784 dL_law_1784 (gRi hr) ?_
  refine g_lcmp h 1785 dL_law_1785 (gRi hr) (gRi hr) ?_
  rw [if_neg (Int.lt_irrefl _), if_pos rfl]
  refine g_if_eq h 1786 1791 gR_0 dL_law_1786 (by decide) (fun _ => ?_) (fun q => absurd rfl q)
  refine g_goto h 1791 1986 dL_law_1791 (by decide) ?_
  exact G_widen (by omega) (by omega) (JE _ _ _ _ hI)
set_option maxRecDepth 100000 in
set_option maxHeartbeats 4000000 in
theorem lc_list {X : gX} {l : Launch} {w : gW} {bs : Nat} (hl : l.stackTraces = false) (h : gOk X "PagewrightLaw" cL_law 7 14 601024 7293033) (hE : gAtX X l w bs) {Ln : Nat} {xs : Nat → Int32} (hX : gScr X Ln xs) (hL9 : Ln ≤ 4608) {Inv : Nat → S2 → S2 → Prop} (HS : gSim_list Inv) (j : Nat) (hj : j < 512) {i : Int} (hi : 0 ≤ i ∧ i + 9 ≤ Ln) (σ μ : S2) (hInv : Inv j σ μ) (JE : ∀ (σ1 μ1 : S2) (z5 z6 : Int), Inv (j + 1) σ1 μ1 → G X (1000 + 8 * (j + 1)) (20000 + 48 * (j + 1)) 1986 [(61, 0), (10, 0), (11, 0), (60, 0), (0, i), (0, z5), (0, z6)] [] (σ1, μ1)) : G X (1000 + 8 * j) (20000 + 48 * j) 1794 [(61, 0), (10, 0), (11, 0), (60, 0), (0, i), (1, 0), (1, 0)] [] (σ, μ) := by
  have r1 : -2147483648 ≤ (xs (i + 1).toNat).toInt ∧ (xs (i + 1).toNat).toInt ≤ 2147483647 := gR_toInt _
  have r2 : -2147483648 ≤ (xs (i + 2).toNat).toInt ∧ (xs (i + 2).toNat).toInt ≤ 2147483647 := gR_toInt _
  obtain ⟨r, s1, b, m1, hF, hG, hx, ht, hb9, hI⟩ := HS j σ μ ((xs (i + 1).toNat).toInt) ((xs (i + 2).toNat).toInt) hInv hj r1 r2
  have hk : 0 ≤ (if gxc r = 0 then 0 else 1 : Int) ∧ (if gxc r = 0 then 0 else 1 : Int) ≤ 3 := by rcases hx with hx | hx <;> rw [hx] <;> decide
  refine g_aload_nq h 1794 dL_law_1794 rfl rfl ?_
  refine g_aload_nq h 1795 dL_law_1795 rfl rfl ?_
  refine g_iload h 1796 dL_law_1796 rfl ?_
  refine g_iconst h 1798 dL_law_1798 ?_
  refine g_iadd h 1799 dL_law_1799 ?_
  refine g_scrld h 1800 dL_law_1800 hX (by omega) hL9 ?_
  refine g_aload_nq h 1801 dL_law_1801 rfl rfl ?_
  refine g_iload h 1802 dL_law_1802 rfl ?_
  refine g_iconst h 1804 dL_law_1804 ?_
  refine g_iadd h 1805 dL_law_1805 ?_
  refine g_scrld h 1806 dL_law_1806 hX (by omega) hL9 ?_
  refine g_aload_nq h 1807 dL_law_1807 rfl rfl ?_
  refine g_callSH (n := 4) h hE 1808 dL_law_1808 (cw_list hl hF hx) kw_965 kw_100 kw_964 ⟨by decide, by decide, by decide +kernel⟩ (Nat.le_of_ble_eq_true rfl) kw_963 (Nat.le_of_ble_eq_true rfl) rfl (Nat.le_of_ble_eq_true rfl) ⟨by omega, by omega⟩ rfl rfl ?_
  show G X (1000 + 8 * j + 1) (20000 + 48 * j + 6 * 1) 1811 [(61, 0), (10, 0), (11, 0), (60, 0), (0, i), (1, 0), (1, 0)] [(0, (if gxc r = 0 then 0 else 1 : Int))] ((if gxc r = 0 then upd2 s1 51 0 r else s1), μ)
  refine g_istore h 1811 dL_law_1811 (Nat.le_of_ble_eq_true rfl) rfl (L' := [(61, 0), (10, 0), (11, 0), (60, 0), (0, i), (0, (if gxc r = 0 then 0 else 1 : Int)), (1, 0)]) rfl ?_
  refine g_aload_nq h 1813 dL_law_1813 rfl rfl ?_
  refine g_aload_nq h 1814 dL_law_1814 rfl rfl ?_
  refine g_iload h 1815 dL_law_1815 rfl ?_
  refine g_iconst h 1817 dL_law_1817 ?_
  refine g_iadd h 1818 dL_law_1818 ?_
  refine g_scrld h 1819 dL_law_1819 hX (by omega) hL9 ?_
  refine g_aload_nq h 1820 dL_law_1820 rfl rfl ?_
  refine g_iload h 1821 dL_law_1821 rfl ?_
  refine g_iconst h 1823 dL_law_1823 ?_
  refine g_iadd h 1824 dL_law_1824 ?_
  refine g_scrld h 1825 dL_law_1825 hX (by omega) hL9 ?_
  refine g_callV0 h hE 1826 dL_law_1826 (ctX8_list hl hG) mwX8_list kw_1452 (by decide) (by decide) rfl (Nat.le_of_ble_eq_true rfl) rfl (Nat.le_of_ble_eq_true rfl) ⟨by omega, by omega⟩ rfl rfl ?_
  show G X (1000 + 8 * j + 1) (20000 + 48 * j + 6 * 1) 1829 [(61, 0), (10, 0), (11, 0), (60, 0), (0, i), (0, (if gxc r = 0 then 0 else 1 : Int)), (1, 0)] [(0, b)] ((if gxc r = 0 then upd2 s1 51 0 r else s1), m1)
  refine g_istore h 1829 dL_law_1829 (Nat.le_of_ble_eq_true rfl) rfl (L' := [(61, 0), (10, 0), (11, 0), (60, 0), (0, i), (0, (if gxc r = 0 then 0 else 1 : Int)), (0, b)]) rfl ?_
  refine g_aload_nq h 1831 dL_law_1831 rfl rfl ?_
  refine g_callV0 h hE 1832 dL_law_1832 (cpX8_thrown hl) mwX8_thrown kw_1134 (by decide) (by decide) rfl (Nat.le_of_ble_eq_true rfl) rfl (Nat.le_of_ble_eq_true rfl) ⟨by omega, by omega⟩ rfl rfl ?_
  show G X (1000 + 8 * j + 1) (20000 + 48 * j + 6 * 1) 1835 [(61, 0), (10, 0), (11, 0), (60, 0), (0, i), (0, (if gxc r = 0 then 0 else 1 : Int)), (0, b)] [(0, m1 101 0)] ((if gxc r = 0 then upd2 s1 51 0 r else s1), m1)
  refine g_iload h 1835 dL_law_1835 rfl ?_
  refine g_icmp_eq h 1837 1842 (gRi (by omega)) (gRi (by omega)) dL_law_1837 (by decide) (fun _ => ?_) (fun q => absurd ht q)
  refine g_iload h 1842 dL_law_1842 rfl ?_
  refine g_if_ne h 1844 1859 (gRi (by omega)) dL_law_1844 (by decide) (fun _ => ?_) (fun hk0 => ?_)
  · refine g_goto h 1859 1986 dL_law_1859 (by decide) ?_
    exact G_widen (by omega) (by omega) (JE _ _ _ _ hI)
  have hx0 : gxc r = 0 := by
    rcases hx with hx | hx
    · exact hx
    · rw [hx] at hk0; exact absurd hk0 (by decide)
  have hbr := hb9 hx0
  have hr := (rgX7_list hF).resolve_left (fun q => q hx0)
  have hov : (if gxc r = 0 then upd2 s1 51 0 r else s1) 51 0 = r := by rw [if_pos hx0]; exact upd2_s
  subst hbr
  refine g_aload_nq h 1847 dL_law_1847 rfl rfl ?_
  refine g_iconst h 1848 dL_law_1848 ?_
  refine al_out h 1849 dL_law_1849 (by decide) ?_
  rw [hov]
  refine g_iload h 1850 dL_law_1850 rfl ?_
  refine g_i2l h 1852 dL_law_1852 (gRi hr) ?_
  refine g_lcmp h 1853 dL_law_1853 (gRi hr) (gRi hr) ?_
  rw [if_neg (Int.lt_irrefl _), if_pos rfl]
  refine g_if_eq h 1854 1859 gR_0 dL_law_1854 (by decide) (fun _ => ?_) (fun q => absurd rfl q)
  refine g_goto h 1859 1986 dL_law_1859 (by decide) ?_
  exact G_widen (by omega) (by omega) (JE _ _ _ _ hI)
set_option maxRecDepth 100000 in
set_option maxHeartbeats 4000000 in
theorem lc_about {X : gX} {l : Launch} {w : gW} {bs : Nat} (hl : l.stackTraces = false) (h : gOk X "PagewrightLaw" cL_law 7 14 601024 7293033) (hE : gAtX X l w bs) {Ln : Nat} {xs : Nat → Int32} (hX : gScr X Ln xs) (hL9 : Ln ≤ 4608) {Inv : Nat → S2 → S2 → Prop} (HS : gSim_about Inv) (j : Nat) (hj : j < 512) {i : Int} (hi : 0 ≤ i ∧ i + 9 ≤ Ln) (σ μ : S2) (hInv : Inv j σ μ) (JE : ∀ (σ1 μ1 : S2) (z5 z6 : Int), Inv (j + 1) σ1 μ1 → G X (1000 + 8 * (j + 1)) (20000 + 48 * (j + 1)) 1986 [(61, 0), (10, 0), (11, 0), (60, 0), (0, i), (0, z5), (0, z6)] [] (σ1, μ1)) : G X (1000 + 8 * j) (20000 + 48 * j) 1862 [(61, 0), (10, 0), (11, 0), (60, 0), (0, i), (1, 0), (1, 0)] [] (σ, μ) := by
  have r1 : -2147483648 ≤ (xs (i + 1).toNat).toInt ∧ (xs (i + 1).toNat).toInt ≤ 2147483647 := gR_toInt _
  have r2 : -2147483648 ≤ (xs (i + 2).toNat).toInt ∧ (xs (i + 2).toNat).toInt ≤ 2147483647 := gR_toInt _
  obtain ⟨r, s1, b, m1, hF, hG, hx, ht, hb9, hI⟩ := HS j σ μ ((xs (i + 1).toNat).toInt) ((xs (i + 2).toNat).toInt) hInv hj r1 r2
  have hk : 0 ≤ (if gxc r = 0 then 0 else if gxc r = 1 then 1 else 2 : Int) ∧ (if gxc r = 0 then 0 else if gxc r = 1 then 1 else 2 : Int) ≤ 3 := by rcases hx with hx | hx | hx <;> rw [hx] <;> decide
  refine g_aload_nq h 1862 dL_law_1862 rfl rfl ?_
  refine g_aload_nq h 1863 dL_law_1863 rfl rfl ?_
  refine g_iload h 1864 dL_law_1864 rfl ?_
  refine g_iconst h 1866 dL_law_1866 ?_
  refine g_iadd h 1867 dL_law_1867 ?_
  refine g_scrld h 1868 dL_law_1868 hX (by omega) hL9 ?_
  refine g_aload_nq h 1869 dL_law_1869 rfl rfl ?_
  refine g_iload h 1870 dL_law_1870 rfl ?_
  refine g_iconst h 1872 dL_law_1872 ?_
  refine g_iadd h 1873 dL_law_1873 ?_
  refine g_scrld h 1874 dL_law_1874 hX (by omega) hL9 ?_
  refine g_aload_nq h 1875 dL_law_1875 rfl rfl ?_
  refine g_callSH (n := 4) h hE 1876 dL_law_1876 (cw_about hl hF hx) kw_980 kw_100 kw_979 ⟨by decide, by decide, by decide +kernel⟩ (Nat.le_of_ble_eq_true rfl) kw_978 (Nat.le_of_ble_eq_true rfl) rfl (Nat.le_of_ble_eq_true rfl) ⟨by omega, by omega⟩ rfl rfl ?_
  show G X (1000 + 8 * j + 2) (20000 + 48 * j + 6 * 2) 1879 [(61, 0), (10, 0), (11, 0), (60, 0), (0, i), (1, 0), (1, 0)] [(0, (if gxc r = 0 then 0 else if gxc r = 1 then 1 else 2 : Int))] ((if gxc r = 0 then upd2 s1 51 0 r else s1), μ)
  refine g_istore h 1879 dL_law_1879 (Nat.le_of_ble_eq_true rfl) rfl (L' := [(61, 0), (10, 0), (11, 0), (60, 0), (0, i), (0, (if gxc r = 0 then 0 else if gxc r = 1 then 1 else 2 : Int)), (1, 0)]) rfl ?_
  refine g_aload_nq h 1881 dL_law_1881 rfl rfl ?_
  refine g_aload_nq h 1882 dL_law_1882 rfl rfl ?_
  refine g_iload h 1883 dL_law_1883 rfl ?_
  refine g_iconst h 1885 dL_law_1885 ?_
  refine g_iadd h 1886 dL_law_1886 ?_
  refine g_scrld h 1887 dL_law_1887 hX (by omega) hL9 ?_
  refine g_aload_nq h 1888 dL_law_1888 rfl rfl ?_
  refine g_iload h 1889 dL_law_1889 rfl ?_
  refine g_iconst h 1891 dL_law_1891 ?_
  refine g_iadd h 1892 dL_law_1892 ?_
  refine g_scrld h 1893 dL_law_1893 hX (by omega) hL9 ?_
  refine g_callV0 h hE 1894 dL_law_1894 (ctX8_about hl hG) mwX8_about kw_1456 (by decide) (by decide) rfl (Nat.le_of_ble_eq_true rfl) rfl (Nat.le_of_ble_eq_true rfl) ⟨by omega, by omega⟩ rfl rfl ?_
  show G X (1000 + 8 * j + 2) (20000 + 48 * j + 6 * 2) 1897 [(61, 0), (10, 0), (11, 0), (60, 0), (0, i), (0, (if gxc r = 0 then 0 else if gxc r = 1 then 1 else 2 : Int)), (1, 0)] [(0, b)] ((if gxc r = 0 then upd2 s1 51 0 r else s1), m1)
  refine g_istore h 1897 dL_law_1897 (Nat.le_of_ble_eq_true rfl) rfl (L' := [(61, 0), (10, 0), (11, 0), (60, 0), (0, i), (0, (if gxc r = 0 then 0 else if gxc r = 1 then 1 else 2 : Int)), (0, b)]) rfl ?_
  refine g_aload_nq h 1899 dL_law_1899 rfl rfl ?_
  refine g_callV0 h hE 1900 dL_law_1900 (cpX8_thrown hl) mwX8_thrown kw_1134 (by decide) (by decide) rfl (Nat.le_of_ble_eq_true rfl) rfl (Nat.le_of_ble_eq_true rfl) ⟨by omega, by omega⟩ rfl rfl ?_
  show G X (1000 + 8 * j + 2) (20000 + 48 * j + 6 * 2) 1903 [(61, 0), (10, 0), (11, 0), (60, 0), (0, i), (0, (if gxc r = 0 then 0 else if gxc r = 1 then 1 else 2 : Int)), (0, b)] [(0, m1 101 0)] ((if gxc r = 0 then upd2 s1 51 0 r else s1), m1)
  refine g_iload h 1903 dL_law_1903 rfl ?_
  refine g_icmp_eq h 1905 1910 (gRi (by omega)) (gRi (by omega)) dL_law_1905 (by decide) (fun _ => ?_) (fun q => absurd ht q)
  refine g_iload h 1910 dL_law_1910 rfl ?_
  refine g_if_ne h 1912 1927 (gRi (by omega)) dL_law_1912 (by decide) (fun _ => ?_) (fun hk0 => ?_)
  · refine g_goto h 1927 1986 dL_law_1927 (by decide) ?_
    exact G_widen (by omega) (by omega) (JE _ _ _ _ hI)
  have hx0 : gxc r = 0 := by
    rcases hx with hx | hx | hx
    · exact hx
    · rw [hx] at hk0; exact absurd hk0 (by decide)
    · rw [hx] at hk0; exact absurd hk0 (by decide)
  have hbr := hb9 hx0
  have hr := (rgX7_about hF).resolve_left (fun q => q hx0)
  have hov : (if gxc r = 0 then upd2 s1 51 0 r else s1) 51 0 = r := by rw [if_pos hx0]; exact upd2_s
  subst hbr
  refine g_aload_nq h 1915 dL_law_1915 rfl rfl ?_
  refine g_iconst h 1916 dL_law_1916 ?_
  refine al_out h 1917 dL_law_1917 (by decide) ?_
  rw [hov]
  refine g_iload h 1918 dL_law_1918 rfl ?_
  refine g_i2l h 1920 dL_law_1920 (gRi hr) ?_
  refine g_lcmp h 1921 dL_law_1921 (gRi hr) (gRi hr) ?_
  rw [if_neg (Int.lt_irrefl _), if_pos rfl]
  refine g_if_eq h 1922 1927 gR_0 dL_law_1922 (by decide) (fun _ => ?_) (fun q => absurd rfl q)
  refine g_goto h 1927 1986 dL_law_1927 (by decide) ?_
  exact G_widen (by omega) (by omega) (JE _ _ _ _ hI)
set_option maxRecDepth 100000 in
set_option maxHeartbeats 4000000 in
theorem lc_count {X : gX} {l : Launch} {w : gW} {bs : Nat} (hl : l.stackTraces = false) (h : gOk X "PagewrightLaw" cL_law 7 14 601024 7293033) (hE : gAtX X l w bs) {Ln : Nat} {xs : Nat → Int32} (hX : gScr X Ln xs) (hL9 : Ln ≤ 4608) {Inv : Nat → S2 → S2 → Prop} (HS : gSim_count Inv) (j : Nat) (hj : j < 512) {i : Int} (hi : 0 ≤ i ∧ i + 9 ≤ Ln) (σ μ : S2) (hInv : Inv j σ μ) (JE : ∀ (σ1 μ1 : S2) (z5 z6 : Int), Inv (j + 1) σ1 μ1 → G X (1000 + 8 * (j + 1)) (20000 + 48 * (j + 1)) 1986 [(61, 0), (10, 0), (11, 0), (60, 0), (0, i), (0, z5), (0, z6)] [] (σ1, μ1)) : G X (1000 + 8 * j) (20000 + 48 * j) 1930 [(61, 0), (10, 0), (11, 0), (60, 0), (0, i), (1, 0), (1, 0)] [] (σ, μ) := by
  have r1 : -2147483648 ≤ (xs (i + 1).toNat).toInt ∧ (xs (i + 1).toNat).toInt ≤ 2147483647 := gR_toInt _
  obtain ⟨r, s1, b, m1, hF, hG, hx, ht, hb9, hI⟩ := HS j σ μ ((xs (i + 1).toNat).toInt) hInv hj r1
  have hk : 0 ≤ (if gxc r = 0 then 0 else 1 : Int) ∧ (if gxc r = 0 then 0 else 1 : Int) ≤ 3 := by rcases hx with hx | hx <;> rw [hx] <;> decide
  refine g_aload_nq h 1930 dL_law_1930 rfl rfl ?_
  refine g_aload_nq h 1931 dL_law_1931 rfl rfl ?_
  refine g_iload h 1932 dL_law_1932 rfl ?_
  refine g_iconst h 1934 dL_law_1934 ?_
  refine g_iadd h 1935 dL_law_1935 ?_
  refine g_scrld h 1936 dL_law_1936 hX (by omega) hL9 ?_
  refine g_aload_nq h 1937 dL_law_1937 rfl rfl ?_
  refine g_callSH (n := 3) h hE 1938 dL_law_1938 (cw_count hl hF hx) kw_987 kw_100 kw_986 ⟨by decide, by decide, by decide +kernel⟩ (Nat.le_of_ble_eq_true rfl) kw_985 (Nat.le_of_ble_eq_true rfl) rfl (Nat.le_of_ble_eq_true rfl) ⟨by omega, by omega⟩ rfl rfl ?_
  show G X (1000 + 8 * j + 1) (20000 + 48 * j + 6 * 1) 1941 [(61, 0), (10, 0), (11, 0), (60, 0), (0, i), (1, 0), (1, 0)] [(0, (if gxc r = 0 then 0 else 1 : Int))] ((if gxc r = 0 then upd2 s1 51 0 r else s1), μ)
  refine g_istore h 1941 dL_law_1941 (Nat.le_of_ble_eq_true rfl) rfl (L' := [(61, 0), (10, 0), (11, 0), (60, 0), (0, i), (0, (if gxc r = 0 then 0 else 1 : Int)), (1, 0)]) rfl ?_
  refine g_aload_nq h 1943 dL_law_1943 rfl rfl ?_
  refine g_aload_nq h 1944 dL_law_1944 rfl rfl ?_
  refine g_iload h 1945 dL_law_1945 rfl ?_
  refine g_iconst h 1947 dL_law_1947 ?_
  refine g_iadd h 1948 dL_law_1948 ?_
  refine g_scrld h 1949 dL_law_1949 hX (by omega) hL9 ?_
  refine g_callV0 h hE 1950 dL_law_1950 (ctX8_count hl hG) mwX8_count kw_1464 (by decide) (by decide) rfl (Nat.le_of_ble_eq_true rfl) rfl (Nat.le_of_ble_eq_true rfl) ⟨by omega, by omega⟩ rfl rfl ?_
  show G X (1000 + 8 * j + 1) (20000 + 48 * j + 6 * 1) 1953 [(61, 0), (10, 0), (11, 0), (60, 0), (0, i), (0, (if gxc r = 0 then 0 else 1 : Int)), (1, 0)] [(0, b)] ((if gxc r = 0 then upd2 s1 51 0 r else s1), m1)
  refine g_istore h 1953 dL_law_1953 (Nat.le_of_ble_eq_true rfl) rfl (L' := [(61, 0), (10, 0), (11, 0), (60, 0), (0, i), (0, (if gxc r = 0 then 0 else 1 : Int)), (0, b)]) rfl ?_
  refine g_aload_nq h 1955 dL_law_1955 rfl rfl ?_
  refine g_callV0 h hE 1956 dL_law_1956 (cpX8_thrown hl) mwX8_thrown kw_1134 (by decide) (by decide) rfl (Nat.le_of_ble_eq_true rfl) rfl (Nat.le_of_ble_eq_true rfl) ⟨by omega, by omega⟩ rfl rfl ?_
  show G X (1000 + 8 * j + 1) (20000 + 48 * j + 6 * 1) 1959 [(61, 0), (10, 0), (11, 0), (60, 0), (0, i), (0, (if gxc r = 0 then 0 else 1 : Int)), (0, b)] [(0, m1 101 0)] ((if gxc r = 0 then upd2 s1 51 0 r else s1), m1)
  refine g_iload h 1959 dL_law_1959 rfl ?_
  refine g_icmp_eq h 1961 1966 (gRi (by omega)) (gRi (by omega)) dL_law_1961 (by decide) (fun _ => ?_) (fun q => absurd ht q)
  refine g_iload h 1966 dL_law_1966 rfl ?_
  refine g_if_ne h 1968 1983 (gRi (by omega)) dL_law_1968 (by decide) (fun _ => ?_) (fun hk0 => ?_)
  · refine g_goto h 1983 1986 dL_law_1983 (by decide) ?_
    exact G_widen (by omega) (by omega) (JE _ _ _ _ hI)
  have hx0 : gxc r = 0 := by
    rcases hx with hx | hx
    · exact hx
    · rw [hx] at hk0; exact absurd hk0 (by decide)
  have hbr := hb9 hx0
  have hr := (rgX7_count hF).resolve_left (fun q => q hx0)
  have hov : (if gxc r = 0 then upd2 s1 51 0 r else s1) 51 0 = r := by rw [if_pos hx0]; exact upd2_s
  subst hbr
  refine g_aload_nq h 1971 dL_law_1971 rfl rfl ?_
  refine g_iconst h 1972 dL_law_1972 ?_
  refine al_out h 1973 dL_law_1973 (by decide) ?_
  rw [hov]
  refine g_iload h 1974 dL_law_1974 rfl ?_
  refine g_i2l h 1976 dL_law_1976 (gRi hr) ?_
  refine g_lcmp h 1977 dL_law_1977 (gRi hr) (gRi hr) ?_
  rw [if_neg (Int.lt_irrefl _), if_pos rfl]
  refine g_if_eq h 1978 1983 gR_0 dL_law_1978 (by decide) (fun _ => ?_) (fun q => absurd rfl q)
  refine g_goto h 1983 1986 dL_law_1983 (by decide) ?_
  exact G_widen (by omega) (by omega) (JE _ _ _ _ hI)
def gSimAll (Inv : Nat → S2 → S2 → Prop) : Prop := (∀ n σ μ, Inv n σ μ → Inv (n + 1) σ μ) ∧ gSim_space Inv ∧ gSim_map Inv ∧ gSim_unmap Inv ∧ gSim_protect Inv ∧ gSim_move Inv ∧ gSim_fork Inv ∧ gSim_end Inv ∧ gSim_adjust Inv ∧ gSim_limit Inv ∧ gSim_load Inv ∧ gSim_store Inv ∧ gSim_read Inv ∧ gSim_write Inv ∧ gSim_sync Inv ∧ gSim_disk Inv ∧ gSim_reclaim Inv ∧ gSim_handle Inv ∧ gSim_join Inv ∧ gSim_merge Inv ∧ gSim_scan Inv ∧ gSim_entry Inv ∧ gSim_frame Inv ∧ gSim_list Inv ∧ gSim_about Inv ∧ gSim_count Inv
set_option maxRecDepth 100000 in
set_option maxHeartbeats 4000000 in
theorem law_loop {X : gX} {l : Launch} {w : gW} {bs : Nat} (hl : l.stackTraces = false) (h : gOk X "PagewrightLaw" cL_law 7 14 601024 7293033) (hE : gAtX X l w bs) {Ln : Nat} {xs : Nat → Int32} (hX : gScr X Ln xs) (hL9 : Ln ≤ 4608) {Inv : Nat → S2 → S2 → Prop} (HS : gSimAll Inv) (hend : ∀ (i : Int) (S : gS), G X 601024 7293033 1992 [(61, 0), (10, 0), (11, 0), (60, 0), (0, i), (1, 0), (1, 0)] [] S) : ∀ (f j : Nat) (i : Int) (σ μ : S2), 513 - j < f + 1 - 0 ∧ j ≤ 512 → i = 9 * (j : Int) → Inv j σ μ → G X (1000 + 8 * j) (20000 + 48 * j) 23 [(61, 0), (10, 0), (11, 0), (60, 0), (0, i), (1, 0), (1, 0)] [] (σ, μ) := by
  obtain ⟨hMono, S_space, S_map, S_unmap, S_protect, S_move, S_fork, S_end, S_adjust, S_limit, S_load, S_store, S_read, S_write, S_sync, S_disk, S_reclaim, S_handle, S_join, S_merge, S_scan, S_entry, S_frame, S_list, S_about, S_count⟩ := HS
  intro f
  induction f with
  | zero => intro j i σ μ hf hij hInv; exact absurd hf (by omega)
  | succ f ih =>
    intro j i σ μ hf hij hInv
    subst hij
    refine g_iload h 23 dL_law_23 rfl ?_
    refine g_aload_nq h 25 dL_law_25 rfl rfl ?_
    refine g_scrlen h 26 dL_law_26 hX ?_
    refine g_bipush h 27 dL_law_27 (by decide) ?_
    refine g_isub h 29 dL_law_29 ?_
    refine g_icmp_gt h 30 1992 (gRi (by omega)) (gRi (by omega)) dL_law_30 (by decide) (fun _ => ?_) (fun hle => ?_)
    · exact G_widen (by omega) (by omega) (hend _ _)
    have hj512 : j < 512 := by omega
    have JE : ∀ (σ1 μ1 : S2), Inv (j + 1) σ1 μ1 → G X (1000 + 8 * (j + 1)) (20000 + 48 * (j + 1)) 1986 [(61, 0), (10, 0), (11, 0), (60, 0), (0, 9 * (j : Int)), (1, 0), (1, 0)] [] (σ1, μ1) := by
      intro σ1 μ1 hI
      refine g_iinc h 1986 dL_law_1986 rfl rfl (L' := [(61, 0), (10, 0), (11, 0), (60, 0), (0, 9 * (j : Int) + 9), (1, 0), (1, 0)]) rfl ?_
      refine g_goto h 1989 23 dL_law_1989 (by decide) ?_
      exact ih (j + 1) _ σ1 μ1 (by omega) (by omega) hI
    have JE2 : ∀ (σ1 μ1 : S2) (z5 z6 : Int), Inv (j + 1) σ1 μ1 → G X (1000 + 8 * (j + 1)) (20000 + 48 * (j + 1)) 1986 [(61, 0), (10, 0), (11, 0), (60, 0), (0, 9 * (j : Int)), (0, z5), (0, z6)] [] (σ1, μ1) := fun σ1 μ1 z5 z6 hI => G_weak (L' := [(61, 0), (10, 0), (11, 0), (60, 0), (0, 9 * (j : Int)), (1, 0), (1, 0)]) ⟨Or.inr rfl, Or.inr rfl, Or.inr rfl, Or.inr rfl, Or.inr rfl, Or.inl rfl, Or.inl rfl, trivial⟩ (JE σ1 μ1 hI)
    have JE3 : ∀ (σ1 μ1 : S2) (z5 z6 : Int), Inv (j + 1) σ1 μ1 → G X (1000 + 8 * (j + 1)) (20000 + 48 * (j + 1)) 1986 [(61, 0), (10, 0), (11, 0), (60, 0), (0, 9 * (j : Int)), (0, z5), (1, 0)] [] (σ1, μ1) := fun σ1 μ1 z5 z6 hI => G_weak (L' := [(61, 0), (10, 0), (11, 0), (60, 0), (0, 9 * (j : Int)), (1, 0), (1, 0)]) ⟨Or.inr rfl, Or.inr rfl, Or.inr rfl, Or.inr rfl, Or.inr rfl, Or.inl rfl, Or.inr rfl, trivial⟩ (JE σ1 μ1 hI)
    refine g_aload_nq h 33 dL_law_33 rfl rfl ?_
    refine g_iload h 34 dL_law_34 rfl ?_
    have hi9 : 0 ≤ 9 * (j : Int) ∧ 9 * (j : Int) + 9 ≤ Ln := by omega
    refine g_scrld h 36 dL_law_36 hX (by omega) hL9 ?_
    refine g_bipush h 37 dL_law_37 (by decide) ?_
    refine g_iand h 39 dL_law_39 ?_
    generalize hz9 : gAnd (xs (9 * (j : Int)).toNat).toInt 31 = z9
    have hzr : -2147483648 ≤ z9 ∧ z9 ≤ 2147483647 := by rw [← hz9]; exact gR_toInt _
    by_cases c0 : z9 = 0
    · refine g_tsIn h 40 dL_law_40 0 156 c0 (by decide) (by decide) 116 (by decide) (by decide) ?_
      exact lc_space hl h hE hX hL9 S_space j (by omega) hi9 σ μ hInv JE2
    by_cases c1 : z9 = 1
    · refine g_tsIn h 40 dL_law_40 1 212 c1 (by decide) (by decide) 172 (by decide) (by decide) ?_
      exact lc_map hl h hE hX hL9 S_map j (by omega) hi9 σ μ hInv JE2
    by_cases c2 : z9 = 2
    · refine g_tsIn h 40 dL_law_40 2 390 c2 (by decide) (by decide) 350 (by decide) (by decide) ?_
      exact lc_unmap hl h hE hX hL9 S_unmap j (by omega) hi9 σ μ hInv JE2
    by_cases c3 : z9 = 3
    · refine g_tsIn h 40 dL_law_40 3 470 c3 (by decide) (by decide) 430 (by decide) (by decide) ?_
      exact lc_protect hl h hE hX hL9 S_protect j (by omega) hi9 σ μ hInv JE2
    by_cases c4 : z9 = 4
    · refine g_tsIn h 40 dL_law_40 4 562 c4 (by decide) (by decide) 522 (by decide) (by decide) ?_
      exact lc_move hl h hE hX hL9 S_move j (by omega) hi9 σ μ hInv JE2
    by_cases c5 : z9 = 5
    · refine g_tsIn h 40 dL_law_40 5 654 c5 (by decide) (by decide) 614 (by decide) (by decide) ?_
      exact lc_fork hl h hE hX hL9 S_fork j (by omega) hi9 σ μ hInv JE2
    by_cases c6 : z9 = 6
    · refine g_tsIn h 40 dL_law_40 6 710 c6 (by decide) (by decide) 670 (by decide) (by decide) ?_
      exact lc_end hl h hE hX hL9 S_end j (by omega) hi9 σ μ hInv JE2
    by_cases c7 : z9 = 7
    · refine g_tsIn h 40 dL_law_40 7 766 c7 (by decide) (by decide) 726 (by decide) (by decide) ?_
      exact lc_adjust hl h hE hX hL9 S_adjust j (by omega) hi9 σ μ hInv JE2
    by_cases c8 : z9 = 8
    · refine g_tsIn h 40 dL_law_40 8 834 c8 (by decide) (by decide) 794 (by decide) (by decide) ?_
      exact lc_limit hl h hE hX hL9 S_limit j (by omega) hi9 σ μ hInv JE2
    by_cases c9 : z9 = 9
    · refine g_tsIn h 40 dL_law_40 9 902 c9 (by decide) (by decide) 862 (by decide) (by decide) ?_
      exact lc_load hl h hE hX hL9 S_load j (by omega) hi9 σ μ hInv JE2
    by_cases c10 : z9 = 10
    · refine g_tsIn h 40 dL_law_40 10 982 c10 (by decide) (by decide) 942 (by decide) (by decide) ?_
      exact lc_store hl h hE hX hL9 S_store j (by omega) hi9 σ μ hInv JE2
    by_cases c11 : z9 = 11
    · refine g_tsIn h 40 dL_law_40 11 1074 c11 (by decide) (by decide) 1034 (by decide) (by decide) ?_
      exact lc_read hl h hE hX hL9 S_read j (by omega) hi9 σ μ hInv JE2
    by_cases c12 : z9 = 12
    · refine g_tsIn h 40 dL_law_40 12 1142 c12 (by decide) (by decide) 1102 (by decide) (by decide) ?_
      exact lc_write hl h hE hX hL9 S_write j (by omega) hi9 σ μ hInv JE2
    by_cases c13 : z9 = 13
    · refine g_tsIn h 40 dL_law_40 13 1222 c13 (by decide) (by decide) 1182 (by decide) (by decide) ?_
      exact lc_sync hl h hE hX hL9 S_sync j (by omega) hi9 σ μ hInv JE2
    by_cases c14 : z9 = 14
    · refine g_tsIn h 40 dL_law_40 14 1278 c14 (by decide) (by decide) 1238 (by decide) (by decide) ?_
      exact lc_disk hl h hE hX hL9 S_disk j (by omega) hi9 σ μ hInv JE2
    by_cases c15 : z9 = 15
    · refine g_tsIn h 40 dL_law_40 15 1346 c15 (by decide) (by decide) 1306 (by decide) (by decide) ?_
      exact lc_reclaim hl h hE hX hL9 S_reclaim j (by omega) hi9 σ μ hInv JE2
    by_cases c16 : z9 = 16
    · refine g_tsIn h 40 dL_law_40 16 1402 c16 (by decide) (by decide) 1362 (by decide) (by decide) ?_
      exact lc_handle hl h hE hX hL9 S_handle j (by omega) hi9 σ μ hInv JE2
    by_cases c17 : z9 = 17
    · refine g_tsIn h 40 dL_law_40 17 1458 c17 (by decide) (by decide) 1418 (by decide) (by decide) ?_
      exact lc_join hl h hE hX hL9 S_join j (by omega) hi9 σ μ hInv JE2
    by_cases c18 : z9 = 18
    · refine g_tsIn h 40 dL_law_40 18 1526 c18 (by decide) (by decide) 1486 (by decide) (by decide) ?_
      exact lc_merge hl h hE hX hL9 S_merge j (by omega) hi9 σ μ hInv JE3
    by_cases c19 : z9 = 19
    · refine g_tsIn h 40 dL_law_40 19 1590 c19 (by decide) (by decide) 1550 (by decide) (by decide) ?_
      exact lc_scan hl h hE hX hL9 S_scan j (by omega) hi9 σ μ hInv JE2
    by_cases c20 : z9 = 20
    · refine g_tsIn h 40 dL_law_40 20 1646 c20 (by decide) (by decide) 1606 (by decide) (by decide) ?_
      exact lc_entry hl h hE hX hL9 S_entry j (by omega) hi9 σ μ hInv JE2
    by_cases c21 : z9 = 21
    · refine g_tsIn h 40 dL_law_40 21 1726 c21 (by decide) (by decide) 1686 (by decide) (by decide) ?_
      exact lc_frame hl h hE hX hL9 S_frame j (by omega) hi9 σ μ hInv JE2
    by_cases c22 : z9 = 22
    · refine g_tsIn h 40 dL_law_40 22 1794 c22 (by decide) (by decide) 1754 (by decide) (by decide) ?_
      exact lc_list hl h hE hX hL9 S_list j (by omega) hi9 σ μ hInv JE2
    by_cases c23 : z9 = 23
    · refine g_tsIn h 40 dL_law_40 23 1862 c23 (by decide) (by decide) 1822 (by decide) (by decide) ?_
      exact lc_about hl h hE hX hL9 S_about j (by omega) hi9 σ μ hInv JE2
    by_cases c24 : z9 = 24
    · refine g_tsIn h 40 dL_law_40 24 1930 c24 (by decide) (by decide) 1890 (by decide) (by decide) ?_
      exact lc_count hl h hE hX hL9 S_count j (by omega) hi9 σ μ hInv JE2
    refine g_tsOut h 40 dL_law_40 1986 (gRi hzr) (by omega) (by decide) ?_
    exact G_widen (by omega) (by omega) (JE σ μ (hMono _ _ _ hInv))
