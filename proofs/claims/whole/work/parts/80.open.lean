def Rel (u v : Mm) : Prop := True
theorem st_trust {u v : Mm} (h : Rel u v) (a1 a2 : Int32) : wX8_trust u a1 a2 (fun (r : Int32) (u1 : Mm) => wX9_trust v a1 a2 (fun (r2 : Int32) (v1 : Mm) => r = r2 ∧ Rel u1 v1)) := by sorry
theorem st_code {u v : Mm} (h : Rel u v) (a1 a2 a3 a4 : Int32) : wX8_code a1 a2 a3 a4 (fun (r : Int32) => wX9_code a1 a2 a3 a4 (fun (r2 : Int32) => r = r2 ∧ Rel u v)) := by sorry
theorem st_annual {u v : Mm} (h : Rel u v) (a1 a2 a3 a4 : Int32) : wX8_annual a1 a2 a3 a4 (fun (r : Int32) => wX9_annual a1 a2 a3 a4 (fun (r2 : Int32) => r = r2 ∧ Rel u v)) := by sorry
theorem st_decode {u v : Mm} (h : Rel u v) (a1 a2 : Int32) : wX8_decode a1 a2 (fun (r : Int32) => wX9_decode a1 a2 (fun (r2 : Int32) => r = r2 ∧ Rel u v)) := by sorry
theorem st_row {u v : Mm} (h : Rel u v) (a1 a2 a3 a4 : Int32) : wX8_row u a1 a2 a3 a4 (fun (r : Int32) (u1 : Mm) => wX9_row v a1 a2 a3 a4 (fun (r2 : Int32) (v1 : Mm) => r = r2 ∧ Rel u1 v1)) := by sorry
theorem st_rowIs {u v : Mm} (h : Rel u v) (a1 a2 : Int32) : wX8_rowIs u a1 a2 (fun (r : Int32) (u1 : Mm) => wX9_rowIs v a1 a2 (fun (r2 : Int32) (v1 : Mm) => r = r2 ∧ Rel u1 v1)) := by sorry
theorem st_asOf {u v : Mm} (h : Rel u v) (a1 : Int32) : wX8_asOf u a1 (fun (r : Int32) (u1 : Mm) => wX9_asOf v a1 (fun (r2 : Int32) (v1 : Mm) => r = r2 ∧ Rel u1 v1)) := by sorry
theorem st_column {u v : Mm} (h : Rel u v) (a1 a2 : Int32) : wX8_column u a1 a2 (fun (r : Int32) (u1 : Mm) => wX9_column v a1 a2 (fun (r2 : Int32) (v1 : Mm) => r = r2 ∧ Rel u1 v1)) := by sorry
theorem st_said {u v : Mm} (h : Rel u v) (a1 : Int32) : wX8_said u a1 (fun (r : Int64) (u1 : Mm) => wX9_said v a1 (fun (r2 : Int64) (v1 : Mm) => r = r2 ∧ Rel u1 v1)) := by sorry
theorem st_weight {u v : Mm} (h : Rel u v) (a1 : Int32) : wX8_weight u a1 (fun (r : Int32) (u1 : Mm) => wX9_weight v a1 (fun (r2 : Int32) (v1 : Mm) => r = r2 ∧ Rel u1 v1)) := by sorry
theorem st_bent {u v : Mm} (h : Rel u v) (a1 : Int32) : wX8_bent u a1 (fun (r : Int64) (u1 : Mm) => wX9_bent v a1 (fun (r2 : Int64) (v1 : Mm) => r = r2 ∧ Rel u1 v1)) := by sorry
theorem st_shape {u v : Mm} (h : Rel u v) (a1 : Int32) : wX8_shape u a1 (fun (r : Int64) (u1 : Mm) => wX9_shape v a1 (fun (r2 : Int64) (v1 : Mm) => r = r2 ∧ Rel u1 v1)) := by sorry
theorem st_fix {u v : Mm} (h : Rel u v) (a1 a2 a3 a4 : Int32) (hz : a4 = 0 ∨ a4 = 1) : wX8_fix u a1 a2 a3 a4 (fun (r : Int32) (u1 : Mm) => wX9_fix v a1 a2 a3 a4 (fun (r2 : Int32) (v1 : Mm) => r = r2 ∧ Rel u1 v1)) := by sorry
theorem st_rule {u v : Mm} (h : Rel u v) (a1 : Int32) : wX8_rule u a1 (fun (r : Int32) (u1 : Mm) => wX9_rule v a1 (fun (r2 : Int32) (v1 : Mm) => r = r2 ∧ Rel u1 v1)) := by sorry
theorem st_gap {u v : Mm} (h : Rel u v) (a1 a2 a3 : Int32) : wX8_gap u a1 a2 a3 (fun (r : Int64) (u1 : Mm) => wX9_gap v a1 a2 a3 (fun (r2 : Int64) (v1 : Mm) => r = r2 ∧ Rel u1 v1)) := by sorry
theorem st_closed {u v : Mm} (h : Rel u v) (a1 : Int32) : wX8_closed u a1 (fun (r : Int64) (u1 : Mm) => wX9_closed v a1 (fun (r2 : Int64) (v1 : Mm) => r = r2 ∧ Rel u1 v1)) := by sorry
theorem st_moved {u v : Mm} (h : Rel u v) (a1 a2 a3 : Int32) : wX8_moved u a1 a2 a3 (fun (r : Int64) (u1 : Mm) => wX9_moved v a1 a2 a3 (fun (r2 : Int64) (v1 : Mm) => r = r2 ∧ Rel u1 v1)) := by sorry
theorem st_total {u v : Mm} (h : Rel u v) (a1 a2 a3 a4 : Int32) : wX8_total u a1 a2 a3 a4 (fun (r : Int64) (u1 : Mm) => wX9_total v a1 a2 a3 a4 (fun (r2 : Int64) (v1 : Mm) => r = r2 ∧ Rel u1 v1)) := by sorry
theorem st_open {u v : Mm} (h : Rel u v) : wX8_open u (fun (r : Int32) (u1 : Mm) => wX9_open v (fun (r2 : Int32) (v1 : Mm) => r = r2 ∧ Rel u1 v1)) := by sorry
theorem st_broken {u v : Mm} (h : Rel u v) : wX8_broken u (fun (r : Int32) (u1 : Mm) => wX9_broken v (fun (r2 : Int32) (v1 : Mm) => r = r2 ∧ Rel u1 v1)) := by sorry
theorem st_breaks {u v : Mm} (h : Rel u v) (a1 : Int32) : wX8_breaks u a1 (fun (r : Int32) (u1 : Mm) => wX9_breaks v a1 (fun (r2 : Int32) (v1 : Mm) => r = r2 ∧ Rel u1 v1)) := by sorry
theorem st_price {u v : Mm} (h : Rel u v) (a1 a2 a3 : Int32) : wX8_price u a1 a2 a3 (fun (r : Int32) (u1 : Mm) => wX9_price v a1 a2 a3 (fun (r2 : Int32) (v1 : Mm) => r = r2 ∧ Rel u1 v1)) := by sorry
theorem st_volume {u v : Mm} (h : Rel u v) (a1 a2 a3 : Int32) : wX8_volume u a1 a2 a3 (fun (r : Int64) (u1 : Mm) => wX9_volume v a1 a2 a3 (fun (r2 : Int64) (v1 : Mm) => r = r2 ∧ Rel u1 v1)) := by sorry
theorem st_atPrices {u v : Mm} (h : Rel u v) (a1 a2 a3 a4 : Int32) : wX8_atPrices u a1 a2 a3 a4 (fun (r : Int64) (u1 : Mm) => wX9_atPrices v a1 a2 a3 a4 (fun (r2 : Int64) (v1 : Mm) => r = r2 ∧ Rel u1 v1)) := by sorry
theorem st_growth {u v : Mm} (h : Rel u v) (a1 a2 a3 : Int32) : wX8_growth u a1 a2 a3 (fun (r : Int64) (u1 : Mm) => wX9_growth v a1 a2 a3 (fun (r2 : Int64) (v1 : Mm) => r = r2 ∧ Rel u1 v1)) := by sorry
theorem st_chain {u v : Mm} (h : Rel u v) (a1 a2 a3 : Int32) : wX8_chain u a1 a2 a3 (fun (r : Int64) (u1 : Mm) => wX9_chain v a1 a2 a3 (fun (r2 : Int64) (v1 : Mm) => r = r2 ∧ Rel u1 v1)) := by sorry
theorem st_part {u v : Mm} (h : Rel u v) (a1 a2 a3 : Int32) : wX8_part u a1 a2 a3 (fun (r : Int64) (u1 : Mm) => wX9_part v a1 a2 a3 (fun (r2 : Int64) (v1 : Mm) => r = r2 ∧ Rel u1 v1)) := by sorry
theorem st_apart {u v : Mm} (h : Rel u v) (a1 a2 : Int32) : wX8_apart u a1 a2 (fun (r : Int64) (u1 : Mm) => wX9_apart v a1 a2 (fun (r2 : Int64) (v1 : Mm) => r = r2 ∧ Rel u1 v1)) := by sorry
theorem st_trade {u v : Mm} (h : Rel u v) (a1 a2 a3 a4 a5 : Int32) : wX8_trade u a1 a2 a3 a4 a5 (fun (r : Int32) (u1 : Mm) => wX9_trade v a1 a2 a3 a4 a5 (fun (r2 : Int32) (v1 : Mm) => r = r2 ∧ Rel u1 v1)) := by sorry
theorem st_precise {u v : Mm} (h : Rel u v) (a1 a2 : Int32) : wX8_precise u a1 a2 (fun (r : Int32) (u1 : Mm) => wX9_precise v a1 a2 (fun (r2 : Int32) (v1 : Mm) => r = r2 ∧ Rel u1 v1)) := by sorry
theorem st_hidden {u v : Mm} (h : Rel u v) (a1 a2 a3 : Int32) : wX8_hidden u a1 a2 a3 (fun (r : Int32) => wX9_hidden v a1 a2 a3 (fun (r2 : Int32) => r = r2 ∧ Rel u v)) := by sorry
theorem st_agreed {u v : Mm} (h : Rel u v) (a1 a2 a3 : Int32) : wX8_agreed u a1 a2 a3 (fun (r : Int32) => wX9_agreed v a1 a2 a3 (fun (r2 : Int32) => r = r2 ∧ Rel u v)) := by sorry
theorem st_flow {u v : Mm} (h : Rel u v) (a1 a2 a3 a4 : Int32) : wX8_flow u a1 a2 a3 a4 (fun (r : Int64) (u1 : Mm) => wX9_flow v a1 a2 a3 a4 (fun (r2 : Int64) (v1 : Mm) => r = r2 ∧ Rel u1 v1)) := by sorry
theorem st_net {u v : Mm} (h : Rel u v) (a1 a2 : Int32) : wX8_net u a1 a2 (fun (r : Int64) => wX9_net v a1 a2 (fun (r2 : Int64) => r = r2 ∧ Rel u v)) := by sorry
theorem st_stock {u v : Mm} (h : Rel u v) (a1 a2 a3 : Int32) : wX8_stock u a1 a2 a3 (fun (r : Int32) (u1 : Mm) => wX9_stock v a1 a2 a3 (fun (r2 : Int32) (v1 : Mm) => r = r2 ∧ Rel u1 v1)) := by sorry
theorem st_unstock {u v : Mm} (h : Rel u v) (a1 a2 : Int32) : wX8_unstock u a1 a2 (fun (r : Int32) (u1 : Mm) => wX9_unstock v a1 a2 (fun (r2 : Int32) (v1 : Mm) => r = r2 ∧ Rel u1 v1)) := by sorry
theorem st_due {u v : Mm} (h : Rel u v) (a1 a2 : Int32) : wX8_due u a1 a2 (fun (r : Int64) => wX9_due v a1 a2 (fun (r2 : Int64) => r = r2 ∧ Rel u v)) := by sorry
theorem st_off {u v : Mm} (h : Rel u v) (a1 a2 : Int32) : wX8_off u a1 a2 (fun (r : Int64) => wX9_off v a1 a2 (fun (r2 : Int64) => r = r2 ∧ Rel u v)) := by sorry
theorem st_type {u v : Mm} (h : Rel u v) (a1 a2 : Int32) : wX8_type u a1 a2 (fun (r : Int32) (u1 : Mm) => wX9_type v a1 a2 (fun (r2 : Int32) (v1 : Mm) => r = r2 ∧ Rel u1 v1)) := by sorry
theorem st_repeal {u v : Mm} (h : Rel u v) (a1 : Int32) : wX8_repeal u a1 (fun (r : Int32) (u1 : Mm) => wX9_repeal v a1 (fun (r2 : Int32) (v1 : Mm) => r = r2 ∧ Rel u1 v1)) := by sorry
theorem st_fault {u v : Mm} (h : Rel u v) (a1 : Int32) : wX8_fault u a1 (fun (r : Int32) (u1 : Mm) => wX9_fault v a1 (fun (r2 : Int32) (v1 : Mm) => r = r2 ∧ Rel u1 v1)) := by sorry
theorem st_left {u v : Mm} (h : Rel u v) (a1 a2 : Int32) : wX8_left u a1 a2 (fun (r : Int64) (u1 : Mm) => wX9_left v a1 a2 (fun (r2 : Int64) (v1 : Mm) => r = r2 ∧ Rel u1 v1)) := by sorry
theorem st_unkept {u v : Mm} (h : Rel u v) (a1 : Int32) : wX8_unkept u a1 (fun (r : Int32) (u1 : Mm) => wX9_unkept v a1 (fun (r2 : Int32) (v1 : Mm) => r = r2 ∧ Rel u1 v1)) := by sorry
theorem st_revision {u v : Mm} (h : Rel u v) (a1 a2 a3 : Int32) : wX8_revision u a1 a2 a3 (fun (r : Int64) (u1 : Mm) => wX9_revision v a1 a2 a3 (fun (r2 : Int64) (v1 : Mm) => r = r2 ∧ Rel u1 v1)) := by sorry
theorem st_steps {u v : Mm} (h : Rel u v) (a1 a2 a3 : Int32) : wX8_steps u a1 a2 a3 (fun (r : Int32) => wX9_steps v a1 a2 a3 (fun (r2 : Int32) (v1 : Mm) => r = r2 ∧ Rel u v1)) := by sorry
theorem st_step {u v : Mm} (h : Rel u v) (a1 a2 a3 a4 a5 : Int32) : wX8_step u a1 a2 a3 a4 a5 (fun (r : Int64) (u1 : Mm) => wX9_step v a1 a2 a3 a4 a5 (fun (r2 : Int64) (v1 : Mm) => r = r2 ∧ Rel u1 v1)) := by sorry
theorem st_led {u v : Mm} (h : Rel u v) (a1 a2 : Int32) (hz : a2 = 0 ∨ a2 = 1) : wX8_led u a1 a2 (fun (r : Int64) (u1 : Mm) => wX9_led v a1 a2 (fun (r2 : Int64) (v1 : Mm) => r = r2 ∧ Rel u1 v1)) := by sorry
theorem st_sheet {u v : Mm} (h : Rel u v) (a1 a2 a3 : Int32) : wX8_sheet u a1 a2 a3 (fun (r : Int32) (u1 : Mm) => wX9_sheet v a1 a2 a3 (fun (r2 : Int32) (v1 : Mm) => r = r2 ∧ Rel u1 v1)) := by sorry
theorem st_lose {u v : Mm} (h : Rel u v) (a1 : Int32) : wX8_lose u a1 (fun (r : Int32) (u1 : Mm) => wX9_lose v a1 (fun (r2 : Int32) (v1 : Mm) => r = r2 ∧ Rel u1 v1)) := by sorry
theorem st_put {u v : Mm} (h : Rel u v) (a1 a2 a3 a4 : Int32) : wX8_put u a1 a2 a3 a4 (fun (r : Int32) (u1 : Mm) => wX9_put v a1 a2 a3 a4 (fun (r2 : Int32) (v1 : Mm) => r = r2 ∧ Rel u1 v1)) := by sorry
theorem st_get {u v : Mm} (h : Rel u v) (a1 a2 a3 : Int32) : wX8_get u a1 a2 a3 (fun (r : Int32) (u1 : Mm) => wX9_get v a1 a2 a3 (fun (r2 : Int32) (v1 : Mm) => r = r2 ∧ Rel u1 v1)) := by sorry
theorem st_copy {u v : Mm} (h : Rel u v) (a1 a2 a3 a4 a5 : Int32) : wX8_copy u a1 a2 a3 a4 a5 (fun (r : Int32) (u1 : Mm) => wX9_copy v a1 a2 a3 a4 a5 (fun (r2 : Int32) (v1 : Mm) => r = r2 ∧ Rel u1 v1)) := by sorry
theorem st_read {u v : Mm} (h : Rel u v) (a1 : Int32) : wX8_read u a1 (fun (r : Int32) (u1 : Mm) => wX9_read v a1 (fun (r2 : Int32) (v1 : Mm) => r = r2 ∧ Rel u1 v1)) := by sorry
theorem st_write {u v : Mm} (h : Rel u v) (a1 a2 a3 a4 : Int32) : wX8_write u a1 a2 a3 a4 (fun (r : Int32) (u1 : Mm) => wX9_write v a1 a2 a3 a4 (fun (r2 : Int32) (v1 : Mm) => r = r2 ∧ Rel u1 v1)) := by sorry
theorem st_count {u v : Mm} (h : Rel u v) (a1 : Int32) : wX8_count u a1 (fun (r : Int32) (u1 : Mm) => wX9_count v a1 (fun (r2 : Int32) (v1 : Mm) => r = r2 ∧ Rel u1 v1)) := by sorry
theorem st_digest {u v : Mm} (h : Rel u v) : wX8_digest u (fun (r : Int64) (u1 : Mm) => wX9_digest v (fun (r2 : Int64) (v1 : Mm) => r = r2 ∧ Rel u1 v1)) := by sorry
theorem rel_init : wX9_init_b253 (fun v => Rel cu0 v) ru0 := by sorry
